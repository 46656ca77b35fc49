section
-- ===== PART A: goes FIRST, ahead of the names: the tables' words, and 'selects' of the private methods out of them =====
/-- a private method of a class that the tables say can be made, by its rows of tables_1 -/
def lw_okq (q : MethodName × Nat) : Prop := (q.1.cls ≠ "java/lang/invoke/MethodHandle" ∧ q.1.cls ≠ "java/lang/invoke/VarHandle") ∧ Cond.instantiable q.1.cls q.2 ∈ tables_1 ∧ Cond.privateMethod q.1 ∈ tables_1 ∧ Cond.instanceMethod q.1 ∈ tables_1
theorem lw_p0 : lw_okq (⟨"ShopsAsOne", "isNoOwner", "(I)Z"⟩, 15) := ⟨⟨by decide +kernel, by decide +kernel⟩, List.mem_of_getElem? (i := 13) (by decide +kernel), List.mem_of_getElem? (i := 344) (by decide +kernel), List.mem_of_getElem? (i := 345) (by decide +kernel)⟩
theorem lw_p1 : lw_okq (⟨"ShopsAsOne$Street", "measure", "(II)V"⟩, 14) := ⟨⟨by decide +kernel, by decide +kernel⟩, List.mem_of_getElem? (i := 21) (by decide +kernel), List.mem_of_getElem? (i := 370) (by decide +kernel), List.mem_of_getElem? (i := 371) (by decide +kernel)⟩
theorem lw_p2 : lw_okq (⟨"ShopsAsOne", "isNoShop", "(I)Z"⟩, 15) := ⟨⟨by decide +kernel, by decide +kernel⟩, List.mem_of_getElem? (i := 13) (by decide +kernel), List.mem_of_getElem? (i := 381) (by decide +kernel), List.mem_of_getElem? (i := 382) (by decide +kernel)⟩
theorem lw_p3 : lw_okq (⟨"ShopsAsOne", "isNoSort", "(I)Z"⟩, 15) := ⟨⟨by decide +kernel, by decide +kernel⟩, List.mem_of_getElem? (i := 13) (by decide +kernel), List.mem_of_getElem? (i := 418) (by decide +kernel), List.mem_of_getElem? (i := 419) (by decide +kernel)⟩
theorem lw_p4 : lw_okq (⟨"ShopsAsOne$Bests", "listShops", "(LShopsAsOne$Standing;I)V"⟩, 13) := ⟨⟨by decide +kernel, by decide +kernel⟩, List.mem_of_getElem? (i := 138) (by decide +kernel), List.mem_of_getElem? (i := 460) (by decide +kernel), List.mem_of_getElem? (i := 461) (by decide +kernel)⟩
theorem lw_p5 : lw_okq (⟨"ShopsAsOne$Bests", "layOthers", "(LShopsAsOne$Standing;I)V"⟩, 13) := ⟨⟨by decide +kernel, by decide +kernel⟩, List.mem_of_getElem? (i := 138) (by decide +kernel), List.mem_of_getElem? (i := 467) (by decide +kernel), List.mem_of_getElem? (i := 468) (by decide +kernel)⟩
theorem lw_p6 : lw_okq (⟨"ShopsAsOne$Bests", "tryOnePrice", "()V"⟩, 13) := ⟨⟨by decide +kernel, by decide +kernel⟩, List.mem_of_getElem? (i := 138) (by decide +kernel), List.mem_of_getElem? (i := 473) (by decide +kernel), List.mem_of_getElem? (i := 474) (by decide +kernel)⟩
theorem lw_p7 : lw_okq (⟨"ShopsAsOne$Bests", "putPrice", "(II)V"⟩, 13) := ⟨⟨by decide +kernel, by decide +kernel⟩, List.mem_of_getElem? (i := 138) (by decide +kernel), List.mem_of_getElem? (i := 477) (by decide +kernel), List.mem_of_getElem? (i := 478) (by decide +kernel)⟩
theorem lw_p8 : lw_okq (⟨"ShopsAsOne$Bests", "highestFor", "(II)I"⟩, 13) := ⟨⟨by decide +kernel, by decide +kernel⟩, List.mem_of_getElem? (i := 138) (by decide +kernel), List.mem_of_getElem? (i := 481) (by decide +kernel), List.mem_of_getElem? (i := 482) (by decide +kernel)⟩
theorem lw_p9 : lw_okq (⟨"ShopsAsOne$Bests", "keepIfBetter", "(I)V"⟩, 13) := ⟨⟨by decide +kernel, by decide +kernel⟩, List.mem_of_getElem? (i := 138) (by decide +kernel), List.mem_of_getElem? (i := 485) (by decide +kernel), List.mem_of_getElem? (i := 486) (by decide +kernel)⟩
theorem lw_p10 : lw_okq (⟨"ShopsAsOne$Bests", "tryPrices", "(I)V"⟩, 13) := ⟨⟨by decide +kernel, by decide +kernel⟩, List.mem_of_getElem? (i := 138) (by decide +kernel), List.mem_of_getElem? (i := 489) (by decide +kernel), List.mem_of_getElem? (i := 490) (by decide +kernel)⟩
theorem lw_p11 : lw_okq (⟨"ShopsAsOne$Bests", "tryLastPrice", "(I)V"⟩, 13) := ⟨⟨by decide +kernel, by decide +kernel⟩, List.mem_of_getElem? (i := 138) (by decide +kernel), List.mem_of_getElem? (i := 493) (by decide +kernel), List.mem_of_getElem? (i := 494) (by decide +kernel)⟩
theorem lw_p12 : lw_okq (⟨"ShopsAsOne", "gainOf", "(I)I"⟩, 15) := ⟨⟨by decide +kernel, by decide +kernel⟩, List.mem_of_getElem? (i := 13) (by decide +kernel), List.mem_of_getElem? (i := 530) (by decide +kernel), List.mem_of_getElem? (i := 531) (by decide +kernel)⟩
theorem lw_p13 : lw_okq (⟨"ShopsAsOne", "leastMarket", "(II)I"⟩, 15) := ⟨⟨by decide +kernel, by decide +kernel⟩, List.mem_of_getElem? (i := 13) (by decide +kernel), List.mem_of_getElem? (i := 542) (by decide +kernel), List.mem_of_getElem? (i := 543) (by decide +kernel)⟩
theorem lw_p14 : lw_okq (⟨"ShopsAsOne", "wouldPay", "(II)Z"⟩, 15) := ⟨⟨by decide +kernel, by decide +kernel⟩, List.mem_of_getElem? (i := 13) (by decide +kernel), List.mem_of_getElem? (i := 551) (by decide +kernel), List.mem_of_getElem? (i := 552) (by decide +kernel)⟩
theorem lw_p15 : lw_okq (⟨"ShopsAsOne", "nearMarket", "(II)I"⟩, 15) := ⟨⟨by decide +kernel, by decide +kernel⟩, List.mem_of_getElem? (i := 13) (by decide +kernel), List.mem_of_getElem? (i := 560) (by decide +kernel), List.mem_of_getElem? (i := 561) (by decide +kernel)⟩
def lw_privs_1 : List (MethodName × Nat) := [(⟨"ShopsAsOne", "isNoOwner", "(I)Z"⟩, 15), (⟨"ShopsAsOne$Street", "measure", "(II)V"⟩, 14), (⟨"ShopsAsOne", "isNoShop", "(I)Z"⟩, 15), (⟨"ShopsAsOne", "isNoSort", "(I)Z"⟩, 15), (⟨"ShopsAsOne$Bests", "listShops", "(LShopsAsOne$Standing;I)V"⟩, 13), (⟨"ShopsAsOne$Bests", "layOthers", "(LShopsAsOne$Standing;I)V"⟩, 13), (⟨"ShopsAsOne$Bests", "tryOnePrice", "()V"⟩, 13), (⟨"ShopsAsOne$Bests", "putPrice", "(II)V"⟩, 13), (⟨"ShopsAsOne$Bests", "highestFor", "(II)I"⟩, 13), (⟨"ShopsAsOne$Bests", "keepIfBetter", "(I)V"⟩, 13), (⟨"ShopsAsOne$Bests", "tryPrices", "(I)V"⟩, 13), (⟨"ShopsAsOne$Bests", "tryLastPrice", "(I)V"⟩, 13), (⟨"ShopsAsOne", "gainOf", "(I)I"⟩, 15), (⟨"ShopsAsOne", "leastMarket", "(II)I"⟩, 15), (⟨"ShopsAsOne", "wouldPay", "(II)Z"⟩, 15), (⟨"ShopsAsOne", "nearMarket", "(II)I"⟩, 15)]
theorem lw_r1 : ∀ q ∈ lw_privs_1, lw_okq q := List.forall_mem_cons.mpr ⟨lw_p0, List.forall_mem_cons.mpr ⟨lw_p1, List.forall_mem_cons.mpr ⟨lw_p2, List.forall_mem_cons.mpr ⟨lw_p3, List.forall_mem_cons.mpr ⟨lw_p4, List.forall_mem_cons.mpr ⟨lw_p5, List.forall_mem_cons.mpr ⟨lw_p6, List.forall_mem_cons.mpr ⟨lw_p7, List.forall_mem_cons.mpr ⟨lw_p8, List.forall_mem_cons.mpr ⟨lw_p9, List.forall_mem_cons.mpr ⟨lw_p10, List.forall_mem_cons.mpr ⟨lw_p11, List.forall_mem_cons.mpr ⟨lw_p12, List.forall_mem_cons.mpr ⟨lw_p13, List.forall_mem_cons.mpr ⟨lw_p14, List.forall_mem_cons.mpr ⟨lw_p15, fun _ h => absurd h List.not_mem_nil⟩⟩⟩⟩⟩⟩⟩⟩⟩⟩⟩⟩⟩⟩⟩⟩
theorem lw_p16 : lw_okq (⟨"ShopsAsOne", "areNotTwo", "(II)Z"⟩, 15) := ⟨⟨by decide +kernel, by decide +kernel⟩, List.mem_of_getElem? (i := 13) (by decide +kernel), List.mem_of_getElem? (i := 581) (by decide +kernel), List.mem_of_getElem? (i := 582) (by decide +kernel)⟩
theorem lw_p17 : lw_okq (⟨"ShopsAsOne", "areTooMany", "(II)Z"⟩, 15) := ⟨⟨by decide +kernel, by decide +kernel⟩, List.mem_of_getElem? (i := 13) (by decide +kernel), List.mem_of_getElem? (i := 585) (by decide +kernel), List.mem_of_getElem? (i := 586) (by decide +kernel)⟩
theorem lw_p18 : lw_okq (⟨"ShopsAsOne$Grammar", "takes", "(C)Z"⟩, 3) := ⟨⟨by decide +kernel, by decide +kernel⟩, List.mem_of_getElem? (i := 230) (by decide +kernel), List.mem_of_getElem? (i := 674) (by decide +kernel), List.mem_of_getElem? (i := 675) (by decide +kernel)⟩
theorem lw_p19 : lw_okq (⟨"ShopsAsOne$Grammar", "takesFactor", "(C)Z"⟩, 3) := ⟨⟨by decide +kernel, by decide +kernel⟩, List.mem_of_getElem? (i := 230) (by decide +kernel), List.mem_of_getElem? (i := 678) (by decide +kernel), List.mem_of_getElem? (i := 679) (by decide +kernel)⟩
theorem lw_p20 : lw_okq (⟨"ShopsAsOne$Grammar", "takesDigit", "(C)Z"⟩, 3) := ⟨⟨by decide +kernel, by decide +kernel⟩, List.mem_of_getElem? (i := 230) (by decide +kernel), List.mem_of_getElem? (i := 682) (by decide +kernel), List.mem_of_getElem? (i := 683) (by decide +kernel)⟩
theorem lw_p21 : lw_okq (⟨"ShopsAsOne$Grammar", "takesBehind", "(C)Z"⟩, 3) := ⟨⟨by decide +kernel, by decide +kernel⟩, List.mem_of_getElem? (i := 230) (by decide +kernel), List.mem_of_getElem? (i := 689) (by decide +kernel), List.mem_of_getElem? (i := 690) (by decide +kernel)⟩
theorem lw_p22 : lw_okq (⟨"ShopsAsOne", "isNoTest", "(I)Z"⟩, 15) := ⟨⟨by decide +kernel, by decide +kernel⟩, List.mem_of_getElem? (i := 13) (by decide +kernel), List.mem_of_getElem? (i := 710) (by decide +kernel), List.mem_of_getElem? (i := 711) (by decide +kernel)⟩
theorem lw_p23 : lw_okq (⟨"ShopsAsOne", "isBarred", "(III)Z"⟩, 15) := ⟨⟨by decide +kernel, by decide +kernel⟩, List.mem_of_getElem? (i := 13) (by decide +kernel), List.mem_of_getElem? (i := 714) (by decide +kernel), List.mem_of_getElem? (i := 715) (by decide +kernel)⟩
theorem lw_p24 : lw_okq (⟨"ShopsAsOne$Judge", "countSold", "(LShopsAsOne$Standing;)V"⟩, 10) := ⟨⟨by decide +kernel, by decide +kernel⟩, List.mem_of_getElem? (i := 246) (by decide +kernel), List.mem_of_getElem? (i := 722) (by decide +kernel), List.mem_of_getElem? (i := 723) (by decide +kernel)⟩
theorem lw_p25 : lw_okq (⟨"ShopsAsOne$Judge", "leastDistance", "(LShopsAsOne$Standing;II)I"⟩, 10) := ⟨⟨by decide +kernel, by decide +kernel⟩, List.mem_of_getElem? (i := 246) (by decide +kernel), List.mem_of_getElem? (i := 730) (by decide +kernel), List.mem_of_getElem? (i := 731) (by decide +kernel)⟩
theorem lw_p26 : lw_okq (⟨"ShopsAsOne$Judge", "startTerms", "()V"⟩, 10) := ⟨⟨by decide +kernel, by decide +kernel⟩, List.mem_of_getElem? (i := 246) (by decide +kernel), List.mem_of_getElem? (i := 741) (by decide +kernel), List.mem_of_getElem? (i := 742) (by decide +kernel)⟩
theorem lw_p27 : lw_okq (⟨"ShopsAsOne$Judge", "readLetter", "(LShopsAsOne$Text;I)V"⟩, 10) := ⟨⟨by decide +kernel, by decide +kernel⟩, List.mem_of_getElem? (i := 246) (by decide +kernel), List.mem_of_getElem? (i := 745) (by decide +kernel), List.mem_of_getElem? (i := 746) (by decide +kernel)⟩
theorem lw_p28 : lw_okq (⟨"ShopsAsOne$Judge", "termsHold", "()Z"⟩, 10) := ⟨⟨by decide +kernel, by decide +kernel⟩, List.mem_of_getElem? (i := 246) (by decide +kernel), List.mem_of_getElem? (i := 750) (by decide +kernel), List.mem_of_getElem? (i := 751) (by decide +kernel)⟩
theorem lw_p29 : lw_okq (⟨"ShopsAsOne$Judge", "takeFactor", "(Z)V"⟩, 10) := ⟨⟨by decide +kernel, by decide +kernel⟩, List.mem_of_getElem? (i := 246) (by decide +kernel), List.mem_of_getElem? (i := 754) (by decide +kernel), List.mem_of_getElem? (i := 755) (by decide +kernel)⟩
theorem lw_p30 : lw_okq (⟨"ShopsAsOne", "mixStreet", "(J)J"⟩, 15) := ⟨⟨by decide +kernel, by decide +kernel⟩, List.mem_of_getElem? (i := 13) (by decide +kernel), List.mem_of_getElem? (i := 786) (by decide +kernel), List.mem_of_getElem? (i := 787) (by decide +kernel)⟩
theorem lw_p31 : lw_okq (⟨"ShopsAsOne", "mixSorts", "(J)J"⟩, 15) := ⟨⟨by decide +kernel, by decide +kernel⟩, List.mem_of_getElem? (i := 13) (by decide +kernel), List.mem_of_getElem? (i := 795) (by decide +kernel), List.mem_of_getElem? (i := 796) (by decide +kernel)⟩
def lw_privs_2 : List (MethodName × Nat) := [(⟨"ShopsAsOne", "areNotTwo", "(II)Z"⟩, 15), (⟨"ShopsAsOne", "areTooMany", "(II)Z"⟩, 15), (⟨"ShopsAsOne$Grammar", "takes", "(C)Z"⟩, 3), (⟨"ShopsAsOne$Grammar", "takesFactor", "(C)Z"⟩, 3), (⟨"ShopsAsOne$Grammar", "takesDigit", "(C)Z"⟩, 3), (⟨"ShopsAsOne$Grammar", "takesBehind", "(C)Z"⟩, 3), (⟨"ShopsAsOne", "isNoTest", "(I)Z"⟩, 15), (⟨"ShopsAsOne", "isBarred", "(III)Z"⟩, 15), (⟨"ShopsAsOne$Judge", "countSold", "(LShopsAsOne$Standing;)V"⟩, 10), (⟨"ShopsAsOne$Judge", "leastDistance", "(LShopsAsOne$Standing;II)I"⟩, 10), (⟨"ShopsAsOne$Judge", "startTerms", "()V"⟩, 10), (⟨"ShopsAsOne$Judge", "readLetter", "(LShopsAsOne$Text;I)V"⟩, 10), (⟨"ShopsAsOne$Judge", "termsHold", "()Z"⟩, 10), (⟨"ShopsAsOne$Judge", "takeFactor", "(Z)V"⟩, 10), (⟨"ShopsAsOne", "mixStreet", "(J)J"⟩, 15), (⟨"ShopsAsOne", "mixSorts", "(J)J"⟩, 15)]
theorem lw_r2 : ∀ q ∈ lw_privs_2, lw_okq q := List.forall_mem_cons.mpr ⟨lw_p16, List.forall_mem_cons.mpr ⟨lw_p17, List.forall_mem_cons.mpr ⟨lw_p18, List.forall_mem_cons.mpr ⟨lw_p19, List.forall_mem_cons.mpr ⟨lw_p20, List.forall_mem_cons.mpr ⟨lw_p21, List.forall_mem_cons.mpr ⟨lw_p22, List.forall_mem_cons.mpr ⟨lw_p23, List.forall_mem_cons.mpr ⟨lw_p24, List.forall_mem_cons.mpr ⟨lw_p25, List.forall_mem_cons.mpr ⟨lw_p26, List.forall_mem_cons.mpr ⟨lw_p27, List.forall_mem_cons.mpr ⟨lw_p28, List.forall_mem_cons.mpr ⟨lw_p29, List.forall_mem_cons.mpr ⟨lw_p30, List.forall_mem_cons.mpr ⟨lw_p31, fun _ h => absurd h List.not_mem_nil⟩⟩⟩⟩⟩⟩⟩⟩⟩⟩⟩⟩⟩⟩⟩⟩
theorem lw_p32 : lw_okq (⟨"ShopsAsOne", "mixTests", "(J)J"⟩, 15) := ⟨⟨by decide +kernel, by decide +kernel⟩, List.mem_of_getElem? (i := 13) (by decide +kernel), List.mem_of_getElem? (i := 799) (by decide +kernel), List.mem_of_getElem? (i := 800) (by decide +kernel)⟩
theorem lw_p33 : lw_okq (⟨"ShopsAsOneModel", "isOwner", "(I)Z"⟩, 42) := ⟨⟨by decide +kernel, by decide +kernel⟩, List.mem_of_getElem? (i := 804) (by decide +kernel), List.mem_of_getElem? (i := 949) (by decide +kernel), List.mem_of_getElem? (i := 950) (by decide +kernel)⟩
theorem lw_p34 : lw_okq (⟨"ShopsAsOneModel", "shopsOf", "(I)I"⟩, 42) := ⟨⟨by decide +kernel, by decide +kernel⟩, List.mem_of_getElem? (i := 804) (by decide +kernel), List.mem_of_getElem? (i := 957) (by decide +kernel), List.mem_of_getElem? (i := 958) (by decide +kernel)⟩
theorem lw_p35 : lw_okq (⟨"ShopsAsOneModel", "isShop", "(I)Z"⟩, 42) := ⟨⟨by decide +kernel, by decide +kernel⟩, List.mem_of_getElem? (i := 804) (by decide +kernel), List.mem_of_getElem? (i := 965) (by decide +kernel), List.mem_of_getElem? (i := 966) (by decide +kernel)⟩
theorem lw_p36 : lw_okq (⟨"ShopsAsOneModel", "aboutOf", "(II)I"⟩, 42) := ⟨⟨by decide +kernel, by decide +kernel⟩, List.mem_of_getElem? (i := 804) (by decide +kernel), List.mem_of_getElem? (i := 969) (by decide +kernel), List.mem_of_getElem? (i := 970) (by decide +kernel)⟩
theorem lw_p37 : lw_okq (⟨"ShopsAsOneModel", "isOpen", "(I)Z"⟩, 42) := ⟨⟨by decide +kernel, by decide +kernel⟩, List.mem_of_getElem? (i := 804) (by decide +kernel), List.mem_of_getElem? (i := 973) (by decide +kernel), List.mem_of_getElem? (i := 974) (by decide +kernel)⟩
theorem lw_p38 : lw_okq (⟨"ShopsAsOneModel", "laySold", "()I"⟩, 42) := ⟨⟨by decide +kernel, by decide +kernel⟩, List.mem_of_getElem? (i := 804) (by decide +kernel), List.mem_of_getElem? (i := 977) (by decide +kernel), List.mem_of_getElem? (i := 978) (by decide +kernel)⟩
theorem lw_p39 : lw_okq (⟨"ShopsAsOneModel", "goesTo", "(I)I"⟩, 42) := ⟨⟨by decide +kernel, by decide +kernel⟩, List.mem_of_getElem? (i := 804) (by decide +kernel), List.mem_of_getElem? (i := 981) (by decide +kernel), List.mem_of_getElem? (i := 982) (by decide +kernel)⟩
theorem lw_p40 : lw_okq (⟨"ShopsAsOneModel", "isTo", "(II)I"⟩, 42) := ⟨⟨by decide +kernel, by decide +kernel⟩, List.mem_of_getElem? (i := 804) (by decide +kernel), List.mem_of_getElem? (i := 985) (by decide +kernel), List.mem_of_getElem? (i := 986) (by decide +kernel)⟩
theorem lw_p41 : lw_okq (⟨"ShopsAsOneModel", "told", "(II)I"⟩, 42) := ⟨⟨by decide +kernel, by decide +kernel⟩, List.mem_of_getElem? (i := 804) (by decide +kernel), List.mem_of_getElem? (i := 989) (by decide +kernel), List.mem_of_getElem? (i := 990) (by decide +kernel)⟩
theorem lw_p42 : lw_okq (⟨"ShopsAsOneModel", "isSort", "(I)Z"⟩, 42) := ⟨⟨by decide +kernel, by decide +kernel⟩, List.mem_of_getElem? (i := 804) (by decide +kernel), List.mem_of_getElem? (i := 1008) (by decide +kernel), List.mem_of_getElem? (i := 1009) (by decide +kernel)⟩
theorem lw_p43 : lw_okq (⟨"ShopsAsOneModel", "spareOf", "(I)I"⟩, 42) := ⟨⟨by decide +kernel, by decide +kernel⟩, List.mem_of_getElem? (i := 804) (by decide +kernel), List.mem_of_getElem? (i := 1020) (by decide +kernel), List.mem_of_getElem? (i := 1021) (by decide +kernel)⟩
theorem lw_p44 : lw_okq (⟨"ShopsAsOneModel", "profitOf", "(I)I"⟩, 42) := ⟨⟨by decide +kernel, by decide +kernel⟩, List.mem_of_getElem? (i := 804) (by decide +kernel), List.mem_of_getElem? (i := 1028) (by decide +kernel), List.mem_of_getElem? (i := 1029) (by decide +kernel)⟩
theorem lw_p45 : lw_okq (⟨"ShopsAsOneModel", "layBest", "(I)V"⟩, 42) := ⟨⟨by decide +kernel, by decide +kernel⟩, List.mem_of_getElem? (i := 804) (by decide +kernel), List.mem_of_getElem? (i := 1037) (by decide +kernel), List.mem_of_getElem? (i := 1038) (by decide +kernel)⟩
theorem lw_p46 : lw_okq (⟨"ShopsAsOneModel", "layCode", "(IIIZ)V"⟩, 42) := ⟨⟨by decide +kernel, by decide +kernel⟩, List.mem_of_getElem? (i := 804) (by decide +kernel), List.mem_of_getElem? (i := 1041) (by decide +kernel), List.mem_of_getElem? (i := 1042) (by decide +kernel)⟩
theorem lw_p47 : lw_okq (⟨"ShopsAsOneModel", "turnOf", "(I)I"⟩, 42) := ⟨⟨by decide +kernel, by decide +kernel⟩, List.mem_of_getElem? (i := 804) (by decide +kernel), List.mem_of_getElem? (i := 1049) (by decide +kernel), List.mem_of_getElem? (i := 1050) (by decide +kernel)⟩
def lw_privs_3 : List (MethodName × Nat) := [(⟨"ShopsAsOne", "mixTests", "(J)J"⟩, 15), (⟨"ShopsAsOneModel", "isOwner", "(I)Z"⟩, 42), (⟨"ShopsAsOneModel", "shopsOf", "(I)I"⟩, 42), (⟨"ShopsAsOneModel", "isShop", "(I)Z"⟩, 42), (⟨"ShopsAsOneModel", "aboutOf", "(II)I"⟩, 42), (⟨"ShopsAsOneModel", "isOpen", "(I)Z"⟩, 42), (⟨"ShopsAsOneModel", "laySold", "()I"⟩, 42), (⟨"ShopsAsOneModel", "goesTo", "(I)I"⟩, 42), (⟨"ShopsAsOneModel", "isTo", "(II)I"⟩, 42), (⟨"ShopsAsOneModel", "told", "(II)I"⟩, 42), (⟨"ShopsAsOneModel", "isSort", "(I)Z"⟩, 42), (⟨"ShopsAsOneModel", "spareOf", "(I)I"⟩, 42), (⟨"ShopsAsOneModel", "profitOf", "(I)I"⟩, 42), (⟨"ShopsAsOneModel", "layBest", "(I)V"⟩, 42), (⟨"ShopsAsOneModel", "layCode", "(IIIZ)V"⟩, 42), (⟨"ShopsAsOneModel", "turnOf", "(I)I"⟩, 42)]
theorem lw_r3 : ∀ q ∈ lw_privs_3, lw_okq q := List.forall_mem_cons.mpr ⟨lw_p32, List.forall_mem_cons.mpr ⟨lw_p33, List.forall_mem_cons.mpr ⟨lw_p34, List.forall_mem_cons.mpr ⟨lw_p35, List.forall_mem_cons.mpr ⟨lw_p36, List.forall_mem_cons.mpr ⟨lw_p37, List.forall_mem_cons.mpr ⟨lw_p38, List.forall_mem_cons.mpr ⟨lw_p39, List.forall_mem_cons.mpr ⟨lw_p40, List.forall_mem_cons.mpr ⟨lw_p41, List.forall_mem_cons.mpr ⟨lw_p42, List.forall_mem_cons.mpr ⟨lw_p43, List.forall_mem_cons.mpr ⟨lw_p44, List.forall_mem_cons.mpr ⟨lw_p45, List.forall_mem_cons.mpr ⟨lw_p46, List.forall_mem_cons.mpr ⟨lw_p47, fun _ h => absurd h List.not_mem_nil⟩⟩⟩⟩⟩⟩⟩⟩⟩⟩⟩⟩⟩⟩⟩⟩
theorem lw_p48 : lw_okq (⟨"ShopsAsOneModel", "hold", "()V"⟩, 42) := ⟨⟨by decide +kernel, by decide +kernel⟩, List.mem_of_getElem? (i := 804) (by decide +kernel), List.mem_of_getElem? (i := 1057) (by decide +kernel), List.mem_of_getElem? (i := 1058) (by decide +kernel)⟩
theorem lw_p49 : lw_okq (⟨"ShopsAsOneModel", "goOn", "()I"⟩, 42) := ⟨⟨by decide +kernel, by decide +kernel⟩, List.mem_of_getElem? (i := 804) (by decide +kernel), List.mem_of_getElem? (i := 1061) (by decide +kernel), List.mem_of_getElem? (i := 1062) (by decide +kernel)⟩
theorem lw_p50 : lw_okq (⟨"ShopsAsOneModel", "back", "()V"⟩, 42) := ⟨⟨by decide +kernel, by decide +kernel⟩, List.mem_of_getElem? (i := 804) (by decide +kernel), List.mem_of_getElem? (i := 1065) (by decide +kernel), List.mem_of_getElem? (i := 1066) (by decide +kernel)⟩
theorem lw_p51 : lw_okq (⟨"ShopsAsOneModel", "gainOf", "(I)I"⟩, 42) := ⟨⟨by decide +kernel, by decide +kernel⟩, List.mem_of_getElem? (i := 804) (by decide +kernel), List.mem_of_getElem? (i := 1073) (by decide +kernel), List.mem_of_getElem? (i := 1074) (by decide +kernel)⟩
theorem lw_p52 : lw_okq (⟨"ShopsAsOneModel", "leastMarket", "(II)I"⟩, 42) := ⟨⟨by decide +kernel, by decide +kernel⟩, List.mem_of_getElem? (i := 804) (by decide +kernel), List.mem_of_getElem? (i := 1085) (by decide +kernel), List.mem_of_getElem? (i := 1086) (by decide +kernel)⟩
theorem lw_p53 : lw_okq (⟨"ShopsAsOneModel", "openSet", "()I"⟩, 42) := ⟨⟨by decide +kernel, by decide +kernel⟩, List.mem_of_getElem? (i := 804) (by decide +kernel), List.mem_of_getElem? (i := 1089) (by decide +kernel), List.mem_of_getElem? (i := 1090) (by decide +kernel)⟩
theorem lw_p54 : lw_okq (⟨"ShopsAsOneModel", "pays", "(II)Z"⟩, 42) := ⟨⟨by decide +kernel, by decide +kernel⟩, List.mem_of_getElem? (i := 804) (by decide +kernel), List.mem_of_getElem? (i := 1096) (by decide +kernel), List.mem_of_getElem? (i := 1097) (by decide +kernel)⟩
theorem lw_p55 : lw_okq (⟨"ShopsAsOneModel", "profitOfSet", "(I)I"⟩, 42) := ⟨⟨by decide +kernel, by decide +kernel⟩, List.mem_of_getElem? (i := 804) (by decide +kernel), List.mem_of_getElem? (i := 1100) (by decide +kernel), List.mem_of_getElem? (i := 1101) (by decide +kernel)⟩
theorem lw_p56 : lw_okq (⟨"ShopsAsOneModel", "nearestMarket", "(II)I"⟩, 42) := ⟨⟨by decide +kernel, by decide +kernel⟩, List.mem_of_getElem? (i := 804) (by decide +kernel), List.mem_of_getElem? (i := 1104) (by decide +kernel), List.mem_of_getElem? (i := 1105) (by decide +kernel)⟩
theorem lw_p57 : lw_okq (⟨"ShopsAsOneModel", "insteadOf", "(II)I"⟩, 42) := ⟨⟨by decide +kernel, by decide +kernel⟩, List.mem_of_getElem? (i := 804) (by decide +kernel), List.mem_of_getElem? (i := 1112) (by decide +kernel), List.mem_of_getElem? (i := 1113) (by decide +kernel)⟩
theorem lw_p58 : lw_okq (⟨"ShopsAsOneModel", "areTwo", "(II)Z"⟩, 42) := ⟨⟨by decide +kernel, by decide +kernel⟩, List.mem_of_getElem? (i := 804) (by decide +kernel), List.mem_of_getElem? (i := 1124) (by decide +kernel), List.mem_of_getElem? (i := 1125) (by decide +kernel)⟩
theorem lw_p59 : lw_okq (⟨"ShopsAsOneModel", "fits", "(II)Z"⟩, 42) := ⟨⟨by decide +kernel, by decide +kernel⟩, List.mem_of_getElem? (i := 804) (by decide +kernel), List.mem_of_getElem? (i := 1128) (by decide +kernel), List.mem_of_getElem? (i := 1129) (by decide +kernel)⟩
theorem lw_p60 : lw_okq (⟨"ShopsAsOneModel", "mergeNow", "(II)V"⟩, 42) := ⟨⟨by decide +kernel, by decide +kernel⟩, List.mem_of_getElem? (i := 804) (by decide +kernel), List.mem_of_getElem? (i := 1132) (by decide +kernel), List.mem_of_getElem? (i := 1133) (by decide +kernel)⟩
theorem lw_p61 : lw_okq (⟨"ShopsAsOneModel", "layBefore", "()Z"⟩, 42) := ⟨⟨by decide +kernel, by decide +kernel⟩, List.mem_of_getElem? (i := 804) (by decide +kernel), List.mem_of_getElem? (i := 1140) (by decide +kernel), List.mem_of_getElem? (i := 1141) (by decide +kernel)⟩
theorem lw_p62 : lw_okq (⟨"ShopsAsOneModel", "layBehind", "(IIIIII)Z"⟩, 42) := ⟨⟨by decide +kernel, by decide +kernel⟩, List.mem_of_getElem? (i := 804) (by decide +kernel), List.mem_of_getElem? (i := 1144) (by decide +kernel), List.mem_of_getElem? (i := 1145) (by decide +kernel)⟩
theorem lw_p63 : lw_okq (⟨"ShopsAsOneModel", "harmNow", "(Z)I"⟩, 42) := ⟨⟨by decide +kernel, by decide +kernel⟩, List.mem_of_getElem? (i := 804) (by decide +kernel), List.mem_of_getElem? (i := 1152) (by decide +kernel), List.mem_of_getElem? (i := 1153) (by decide +kernel)⟩
def lw_privs_4 : List (MethodName × Nat) := [(⟨"ShopsAsOneModel", "hold", "()V"⟩, 42), (⟨"ShopsAsOneModel", "goOn", "()I"⟩, 42), (⟨"ShopsAsOneModel", "back", "()V"⟩, 42), (⟨"ShopsAsOneModel", "gainOf", "(I)I"⟩, 42), (⟨"ShopsAsOneModel", "leastMarket", "(II)I"⟩, 42), (⟨"ShopsAsOneModel", "openSet", "()I"⟩, 42), (⟨"ShopsAsOneModel", "pays", "(II)Z"⟩, 42), (⟨"ShopsAsOneModel", "profitOfSet", "(I)I"⟩, 42), (⟨"ShopsAsOneModel", "nearestMarket", "(II)I"⟩, 42), (⟨"ShopsAsOneModel", "insteadOf", "(II)I"⟩, 42), (⟨"ShopsAsOneModel", "areTwo", "(II)Z"⟩, 42), (⟨"ShopsAsOneModel", "fits", "(II)Z"⟩, 42), (⟨"ShopsAsOneModel", "mergeNow", "(II)V"⟩, 42), (⟨"ShopsAsOneModel", "layBefore", "()Z"⟩, 42), (⟨"ShopsAsOneModel", "layBehind", "(IIIIII)Z"⟩, 42), (⟨"ShopsAsOneModel", "harmNow", "(Z)I"⟩, 42)]
theorem lw_r4 : ∀ q ∈ lw_privs_4, lw_okq q := List.forall_mem_cons.mpr ⟨lw_p48, List.forall_mem_cons.mpr ⟨lw_p49, List.forall_mem_cons.mpr ⟨lw_p50, List.forall_mem_cons.mpr ⟨lw_p51, List.forall_mem_cons.mpr ⟨lw_p52, List.forall_mem_cons.mpr ⟨lw_p53, List.forall_mem_cons.mpr ⟨lw_p54, List.forall_mem_cons.mpr ⟨lw_p55, List.forall_mem_cons.mpr ⟨lw_p56, List.forall_mem_cons.mpr ⟨lw_p57, List.forall_mem_cons.mpr ⟨lw_p58, List.forall_mem_cons.mpr ⟨lw_p59, List.forall_mem_cons.mpr ⟨lw_p60, List.forall_mem_cons.mpr ⟨lw_p61, List.forall_mem_cons.mpr ⟨lw_p62, List.forall_mem_cons.mpr ⟨lw_p63, fun _ h => absurd h List.not_mem_nil⟩⟩⟩⟩⟩⟩⟩⟩⟩⟩⟩⟩⟩⟩⟩⟩
theorem lw_p64 : lw_okq (⟨"ShopsAsOneModel", "isBelow", "(I)Z"⟩, 42) := ⟨⟨by decide +kernel, by decide +kernel⟩, List.mem_of_getElem? (i := 804) (by decide +kernel), List.mem_of_getElem? (i := 1160) (by decide +kernel), List.mem_of_getElem? (i := 1161) (by decide +kernel)⟩
theorem lw_p65 : lw_okq (⟨"ShopsAsOneModel", "readPage", "()V"⟩, 42) := ⟨⟨by decide +kernel, by decide +kernel⟩, List.mem_of_getElem? (i := 804) (by decide +kernel), List.mem_of_getElem? (i := 1181) (by decide +kernel), List.mem_of_getElem? (i := 1182) (by decide +kernel)⟩
theorem lw_p66 : lw_okq (⟨"ShopsAsOneModel", "isTest", "(I)Z"⟩, 42) := ⟨⟨by decide +kernel, by decide +kernel⟩, List.mem_of_getElem? (i := 804) (by decide +kernel), List.mem_of_getElem? (i := 1199) (by decide +kernel), List.mem_of_getElem? (i := 1200) (by decide +kernel)⟩
theorem lw_p67 : lw_okq (⟨"ShopsAsOneModel", "barsNow", "(III)Z"⟩, 42) := ⟨⟨by decide +kernel, by decide +kernel⟩, List.mem_of_getElem? (i := 804) (by decide +kernel), List.mem_of_getElem? (i := 1203) (by decide +kernel), List.mem_of_getElem? (i := 1204) (by decide +kernel)⟩
theorem lw_p68 : lw_okq (⟨"ShopsAsOneModel", "openGroup", "()V"⟩, 42) := ⟨⟨by decide +kernel, by decide +kernel⟩, List.mem_of_getElem? (i := 804) (by decide +kernel), List.mem_of_getElem? (i := 1207) (by decide +kernel), List.mem_of_getElem? (i := 1208) (by decide +kernel)⟩
theorem lw_p69 : lw_okq (⟨"ShopsAsOneModel", "factor", "(Z)V"⟩, 42) := ⟨⟨by decide +kernel, by decide +kernel⟩, List.mem_of_getElem? (i := 804) (by decide +kernel), List.mem_of_getElem? (i := 1211) (by decide +kernel), List.mem_of_getElem? (i := 1212) (by decide +kernel)⟩
theorem lw_p70 : lw_okq (⟨"ShopsAsOneModel", "valueOf", "(III)I"⟩, 42) := ⟨⟨by decide +kernel, by decide +kernel⟩, List.mem_of_getElem? (i := 804) (by decide +kernel), List.mem_of_getElem? (i := 1215) (by decide +kernel), List.mem_of_getElem? (i := 1216) (by decide +kernel)⟩
theorem lw_p71 : lw_okq (⟨"ShopsAsOneModel", "soldBy", "(I)I"⟩, 42) := ⟨⟨by decide +kernel, by decide +kernel⟩, List.mem_of_getElem? (i := 804) (by decide +kernel), List.mem_of_getElem? (i := 1219) (by decide +kernel), List.mem_of_getElem? (i := 1220) (by decide +kernel)⟩
theorem lw_p72 : lw_okq (⟨"ShopsAsOneModel", "howMany", "(I)I"⟩, 42) := ⟨⟨by decide +kernel, by decide +kernel⟩, List.mem_of_getElem? (i := 804) (by decide +kernel), List.mem_of_getElem? (i := 1239) (by decide +kernel), List.mem_of_getElem? (i := 1240) (by decide +kernel)⟩
theorem lw_p73 : lw_okq (⟨"ShopsAsOneModel", "mix", "(J)V"⟩, 42) := ⟨⟨by decide +kernel, by decide +kernel⟩, List.mem_of_getElem? (i := 804) (by decide +kernel), List.mem_of_getElem? (i := 1248) (by decide +kernel), List.mem_of_getElem? (i := 1249) (by decide +kernel)⟩
def lw_privs_5 : List (MethodName × Nat) := [(⟨"ShopsAsOneModel", "isBelow", "(I)Z"⟩, 42), (⟨"ShopsAsOneModel", "readPage", "()V"⟩, 42), (⟨"ShopsAsOneModel", "isTest", "(I)Z"⟩, 42), (⟨"ShopsAsOneModel", "barsNow", "(III)Z"⟩, 42), (⟨"ShopsAsOneModel", "openGroup", "()V"⟩, 42), (⟨"ShopsAsOneModel", "factor", "(Z)V"⟩, 42), (⟨"ShopsAsOneModel", "valueOf", "(III)I"⟩, 42), (⟨"ShopsAsOneModel", "soldBy", "(I)I"⟩, 42), (⟨"ShopsAsOneModel", "howMany", "(I)I"⟩, 42), (⟨"ShopsAsOneModel", "mix", "(J)V"⟩, 42)]
theorem lw_r5 : ∀ q ∈ lw_privs_5, lw_okq q := List.forall_mem_cons.mpr ⟨lw_p64, List.forall_mem_cons.mpr ⟨lw_p65, List.forall_mem_cons.mpr ⟨lw_p66, List.forall_mem_cons.mpr ⟨lw_p67, List.forall_mem_cons.mpr ⟨lw_p68, List.forall_mem_cons.mpr ⟨lw_p69, List.forall_mem_cons.mpr ⟨lw_p70, List.forall_mem_cons.mpr ⟨lw_p71, List.forall_mem_cons.mpr ⟨lw_p72, List.forall_mem_cons.mpr ⟨lw_p73, fun _ h => absurd h List.not_mem_nil⟩⟩⟩⟩⟩⟩⟩⟩⟩⟩
def lw_privs : List (MethodName × Nat) := lw_privs_1 ++ (lw_privs_2 ++ (lw_privs_3 ++ (lw_privs_4 ++ (lw_privs_5))))
def lw_tbl : List Cond := k2_sels lw_privs ++ tables_1
theorem lw_privs_ok : ∀ q ∈ lw_privs, lw_okq q := by
  show ∀ q ∈ lw_privs_1 ++ (lw_privs_2 ++ (lw_privs_3 ++ (lw_privs_4 ++ (lw_privs_5)))), lw_okq q
  exact List.forall_mem_append.mpr ⟨lw_r1, List.forall_mem_append.mpr ⟨lw_r2, List.forall_mem_append.mpr ⟨lw_r3, List.forall_mem_append.mpr ⟨lw_r4, lw_r5⟩⟩⟩⟩
def RX0 : String := "ShopsAsOne$Bests"
def TX0 : u_T := fun k => match k with
  | 0 => ("ShopsAsOne$Bests", "street", "LShopsAsOne$Street;", true)
  | 1 => ("ShopsAsOne$Bests", "own", "[I", true)
  | 2 => ("ShopsAsOne$Bests", "ownCost", "[I", true)
  | 3 => ("ShopsAsOne$Bests", "tried", "[I", true)
  | 4 => ("ShopsAsOne$Bests", "chosen", "[I", true)
  | 5 => ("ShopsAsOne$Bests", "ownCount", "I", false)
  | 6 => ("ShopsAsOne$Bests", "least", "[[I", true)
  | 7 => ("ShopsAsOne$Bests", "choice", "[[I", true)
  | 8 => ("ShopsAsOne$Bests", "earns", "[[I", true)
  | 9 => ("ShopsAsOne$Bests", "comers", "[I", true)
  | 10 => ("ShopsAsOne$Bests", "elsewhere", "[I", true)
  | 11 => ("ShopsAsOne$Bests", "profit", "I", false)
  | _ => ("ShopsAsOne$Bests", "isIn", "Z", false)
def tyX0 : Nat → FieldType := fun k => match k with
  | 0 => .object "ShopsAsOne$Street"
  | 1 => .array .int
  | 2 => .array .int
  | 3 => .array .int
  | 4 => .array .int
  | 5 => .int
  | 6 => .array (.array .int)
  | 7 => .array (.array .int)
  | 8 => .array (.array .int)
  | 9 => .array .int
  | 10 => .array .int
  | 11 => .int
  | _ => .boolean
theorem nmX0 : ∀ a, a < 13 → ∀ b, b < 13 → a ≠ b → (TX0 a).2.1 ≠ (TX0 b).2.1 := by decide +kernel
theorem tyX0_ok : ∀ k, k < 13 → parseFieldDescriptor (TX0 k).2.2.1 = some (tyX0 k) := by decide +kernel
abbrev cX0_init : ByteArray := prog_2_method_1_code
def yX0_init : MethodName := ⟨RX0, "<init>", "(LShopsAsOne$Street;)V"⟩
abbrev cX0_settle : ByteArray := prog_2_method_2_code
def yX0_settle : MethodName := ⟨RX0, "settle", "(LShopsAsOne$Standing;)I"⟩
abbrev cX0_take : ByteArray := prog_2_method_3_code
def yX0_take : MethodName := ⟨RX0, "take", "(LShopsAsOne$Standing;I)I"⟩
abbrev cX0_look : ByteArray := prog_2_method_4_code
def yX0_look : MethodName := ⟨RX0, "look", "(LShopsAsOne$Standing;I)V"⟩
abbrev cX0_priceOf : ByteArray := prog_2_method_5_code
def yX0_priceOf : MethodName := ⟨RX0, "priceOf", "(I)I"⟩
abbrev cX0_listShops : ByteArray := prog_2_method_6_code
def yX0_listShops : MethodName := ⟨RX0, "listShops", "(LShopsAsOne$Standing;I)V"⟩
abbrev cX0_layOthers : ByteArray := prog_2_method_7_code
def yX0_layOthers : MethodName := ⟨RX0, "layOthers", "(LShopsAsOne$Standing;I)V"⟩
abbrev cX0_tryOnePrice : ByteArray := prog_2_method_8_code
def yX0_tryOnePrice : MethodName := ⟨RX0, "tryOnePrice", "()V"⟩
abbrev cX0_tryPrices : ByteArray := prog_2_method_9_code
def yX0_tryPrices : MethodName := ⟨RX0, "tryPrices", "(I)V"⟩
abbrev cX0_putPrice : ByteArray := prog_2_method_10_code
def yX0_putPrice : MethodName := ⟨RX0, "putPrice", "(II)V"⟩
abbrev cX0_highestFor : ByteArray := prog_2_method_11_code
def yX0_highestFor : MethodName := ⟨RX0, "highestFor", "(II)I"⟩
abbrev cX0_tryLastPrice : ByteArray := prog_2_method_12_code
def yX0_tryLastPrice : MethodName := ⟨RX0, "tryLastPrice", "(I)V"⟩
abbrev cX0_keepIfBetter : ByteArray := prog_2_method_13_code
def yX0_keepIfBetter : MethodName := ⟨RX0, "keepIfBetter", "(I)V"⟩
def RX1 : String := "ShopsAsOne$Grammar"
def TX1 : u_T := fun k => match k with
  | 0 => ("ShopsAsOne$Grammar", "wants", "I", false)
  | 1 => ("ShopsAsOne$Grammar", "open", "I", false)
  | _ => ("ShopsAsOne$Grammar", "digits", "I", false)
def tyX1 : Nat → FieldType := fun k => match k with
  | 0 => .int
  | 1 => .int
  | _ => .int
theorem nmX1 : ∀ a, a < 3 → ∀ b, b < 3 → a ≠ b → (TX1 a).2.1 ≠ (TX1 b).2.1 := by decide +kernel
theorem tyX1_ok : ∀ k, k < 3 → parseFieldDescriptor (TX1 k).2.2.1 = some (tyX1 k) := by decide +kernel
abbrev cX1_init : ByteArray := prog_3_method_1_code
def yX1_init : MethodName := ⟨RX1, "<init>", "()V"⟩
abbrev cX1_firstFault : ByteArray := prog_3_method_2_code
def yX1_firstFault : MethodName := ⟨RX1, "firstFault", "(LShopsAsOne$Text;)I"⟩
abbrev cX1_isTest : ByteArray := prog_3_method_3_code
def yX1_isTest : MethodName := ⟨RX1, "isTest", "(LShopsAsOne$Text;)Z"⟩
abbrev cX1_takes : ByteArray := prog_3_method_4_code
def yX1_takes : MethodName := ⟨RX1, "takes", "(C)Z"⟩
abbrev cX1_takesFactor : ByteArray := prog_3_method_5_code
def yX1_takesFactor : MethodName := ⟨RX1, "takesFactor", "(C)Z"⟩
abbrev cX1_takesDigit : ByteArray := prog_3_method_6_code
def yX1_takesDigit : MethodName := ⟨RX1, "takesDigit", "(C)Z"⟩
abbrev cX1_takesBehind : ByteArray := prog_3_method_7_code
def yX1_takesBehind : MethodName := ⟨RX1, "takesBehind", "(C)Z"⟩
def RX2 : String := "ShopsAsOne$Joining"
def TX2 : u_T := fun k => match k with
  | 0 => ("ShopsAsOne$Joining", "street", "LShopsAsOne$Street;", true)
  | 1 => ("ShopsAsOne$Joining", "bests", "LShopsAsOne$Bests;", true)
  | 2 => ("ShopsAsOne$Joining", "before", "LShopsAsOne$Standing;", true)
  | 3 => ("ShopsAsOne$Joining", "behind", "LShopsAsOne$Standing;", true)
  | _ => ("ShopsAsOne$Joining", "spareBefore", "[I", true)
def tyX2 : Nat → FieldType := fun k => match k with
  | 0 => .object "ShopsAsOne$Street"
  | 1 => .object "ShopsAsOne$Bests"
  | 2 => .object "ShopsAsOne$Standing"
  | 3 => .object "ShopsAsOne$Standing"
  | _ => .array .int
theorem nmX2 : ∀ a, a < 5 → ∀ b, b < 5 → a ≠ b → (TX2 a).2.1 ≠ (TX2 b).2.1 := by decide +kernel
theorem tyX2_ok : ∀ k, k < 5 → parseFieldDescriptor (TX2 k).2.2.1 = some (tyX2 k) := by decide +kernel
abbrev cX2_init : ByteArray := prog_4_method_1_code
def yX2_init : MethodName := ⟨RX2, "<init>", "(LShopsAsOne$Street;LShopsAsOne$Bests;)V"⟩
abbrev cX2_restsBefore : ByteArray := prog_4_method_2_code
def yX2_restsBefore : MethodName := ⟨RX2, "restsBefore", "(LShopsAsOne$Standing;)Z"⟩
abbrev cX2_roundsBehind : ByteArray := prog_4_method_3_code
def yX2_roundsBehind : MethodName := ⟨RX2, "roundsBehind", "(LShopsAsOne$Standing;II)I"⟩
abbrev cX2_dearerFor : ByteArray := prog_4_method_4_code
def yX2_dearerFor : MethodName := ⟨RX2, "dearerFor", "(I)I"⟩
abbrev cX2_harmInAll : ByteArray := prog_4_method_5_code
def yX2_harmInAll : MethodName := ⟨RX2, "harmInAll", "()I"⟩
abbrev cX2_sortsHarmed : ByteArray := prog_4_method_6_code
def yX2_sortsHarmed : MethodName := ⟨RX2, "sortsHarmed", "()I"⟩
abbrev cX2_harmOf : ByteArray := prog_4_method_7_code
def yX2_harmOf : MethodName := ⟨RX2, "harmOf", "(LShopsAsOne$Standing;II)I"⟩
abbrev cX2_dearestWhenSold : ByteArray := prog_4_method_8_code
def yX2_dearestWhenSold : MethodName := ⟨RX2, "dearestWhenSold", "(LShopsAsOne$Standing;IIII)I"⟩
def RX3 : String := "ShopsAsOne$Judge"
def TX3 : u_T := fun k => match k with
  | 0 => ("ShopsAsOne$Judge", "street", "LShopsAsOne$Street;", true)
  | 1 => ("ShopsAsOne$Judge", "sold", "[I", true)
  | 2 => ("ShopsAsOne$Judge", "any", "[Z", true)
  | 3 => ("ShopsAsOne$Judge", "all", "[Z", true)
  | 4 => ("ShopsAsOne$Judge", "turned", "[Z", true)
  | 5 => ("ShopsAsOne$Judge", "depth", "I", false)
  | 6 => ("ShopsAsOne$Judge", "share", "I", false)
  | 7 => ("ShopsAsOne$Judge", "sellers", "I", false)
  | 8 => ("ShopsAsOne$Judge", "product", "I", false)
  | _ => ("ShopsAsOne$Judge", "distance", "I", false)
def tyX3 : Nat → FieldType := fun k => match k with
  | 0 => .object "ShopsAsOne$Street"
  | 1 => .array .int
  | 2 => .array .boolean
  | 3 => .array .boolean
  | 4 => .array .boolean
  | 5 => .int
  | 6 => .int
  | 7 => .int
  | 8 => .int
  | _ => .int
theorem nmX3 : ∀ a, a < 10 → ∀ b, b < 10 → a ≠ b → (TX3 a).2.1 ≠ (TX3 b).2.1 := by decide +kernel
theorem tyX3_ok : ∀ k, k < 10 → parseFieldDescriptor (TX3 k).2.2.1 = some (tyX3 k) := by decide +kernel
abbrev cX3_init : ByteArray := prog_5_method_1_code
def yX3_init : MethodName := ⟨RX3, "<init>", "(LShopsAsOne$Street;)V"⟩
abbrev cX3_weigh : ByteArray := prog_5_method_2_code
def yX3_weigh : MethodName := ⟨RX3, "weigh", "(LShopsAsOne$Standing;II)V"⟩
abbrev cX3_countSold : ByteArray := prog_5_method_3_code
def yX3_countSold : MethodName := ⟨RX3, "countSold", "(LShopsAsOne$Standing;)V"⟩
abbrev cX3_hundredths : ByteArray := prog_5_method_4_code
def yX3_hundredths : MethodName := ⟨RX3, "hundredths", "(II)I"⟩
abbrev cX3_leastDistance : ByteArray := prog_5_method_5_code
def yX3_leastDistance : MethodName := ⟨RX3, "leastDistance", "(LShopsAsOne$Standing;II)I"⟩
abbrev cX3_holds : ByteArray := prog_5_method_6_code
def yX3_holds : MethodName := ⟨RX3, "holds", "(LShopsAsOne$Text;)Z"⟩
abbrev cX3_readLetter : ByteArray := prog_5_method_7_code
def yX3_readLetter : MethodName := ⟨RX3, "readLetter", "(LShopsAsOne$Text;I)V"⟩
abbrev cX3_startTerms : ByteArray := prog_5_method_8_code
def yX3_startTerms : MethodName := ⟨RX3, "startTerms", "()V"⟩
abbrev cX3_takeFactor : ByteArray := prog_5_method_9_code
def yX3_takeFactor : MethodName := ⟨RX3, "takeFactor", "(Z)V"⟩
abbrev cX3_termsHold : ByteArray := prog_5_method_10_code
def yX3_termsHold : MethodName := ⟨RX3, "termsHold", "()Z"⟩
abbrev cX3_comparisonHolds : ByteArray := prog_5_method_11_code
def yX3_comparisonHolds : MethodName := ⟨RX3, "comparisonHolds", "(ILShopsAsOne$Text;I)Z"⟩
def RX4 : String := "ShopsAsOne$Standing"
def TX4 : u_T := fun k => match k with
  | 0 => ("ShopsAsOne$Standing", "street", "LShopsAsOne$Street;", true)
  | 1 => ("ShopsAsOne$Standing", "price", "[I", true)
  | 2 => ("ShopsAsOne$Standing", "whose", "[I", true)
  | _ => ("ShopsAsOne$Standing", "in", "[Z", true)
def tyX4 : Nat → FieldType := fun k => match k with
  | 0 => .object "ShopsAsOne$Street"
  | 1 => .array .int
  | 2 => .array .int
  | _ => .array .boolean
theorem nmX4 : ∀ a, a < 4 → ∀ b, b < 4 → a ≠ b → (TX4 a).2.1 ≠ (TX4 b).2.1 := by decide +kernel
theorem tyX4_ok : ∀ k, k < 4 → parseFieldDescriptor (TX4 k).2.2.1 = some (tyX4 k) := by decide +kernel
abbrev cX4_init : ByteArray := prog_6_method_1_code
def yX4_init : MethodName := ⟨RX4, "<init>", "(LShopsAsOne$Street;)V"⟩
abbrev cX4_become : ByteArray := prog_6_method_2_code
def yX4_become : MethodName := ⟨RX4, "become", "(LShopsAsOne$Standing;)V"⟩
abbrev cX4_give : ByteArray := prog_6_method_3_code
def yX4_give : MethodName := ⟨RX4, "give", "(II)V"⟩
abbrev cX4_setOf : ByteArray := prog_6_method_4_code
def yX4_setOf : MethodName := ⟨RX4, "setOf", "(I)I"⟩
abbrev cX4_shopsOf : ByteArray := prog_6_method_5_code
def yX4_shopsOf : MethodName := ⟨RX4, "shopsOf", "(I)I"⟩
abbrev cX4_isOpen : ByteArray := prog_6_method_6_code
def yX4_isOpen : MethodName := ⟨RX4, "isOpen", "(I)Z"⟩
abbrev cX4_openShops : ByteArray := prog_6_method_7_code
def yX4_openShops : MethodName := ⟨RX4, "openShops", "()I"⟩
abbrev cX4_nearestOpen : ByteArray := prog_6_method_8_code
def yX4_nearestOpen : MethodName := ⟨RX4, "nearestOpen", "(II)I"⟩
abbrev cX4_whatIs : ByteArray := prog_6_method_9_code
def yX4_whatIs : MethodName := ⟨RX4, "whatIs", "(II)I"⟩
abbrev cX4_choice : ByteArray := prog_6_method_10_code
def yX4_choice : MethodName := ⟨RX4, "choice", "(II)I"⟩
abbrev cX4_spareOf : ByteArray := prog_6_method_11_code
def yX4_spareOf : MethodName := ⟨RX4, "spareOf", "(I)I"⟩
abbrev cX4_soldBy : ByteArray := prog_6_method_12_code
def yX4_soldBy : MethodName := ⟨RX4, "soldBy", "(I)I"⟩
abbrev cX4_profitOf : ByteArray := prog_6_method_13_code
def yX4_profitOf : MethodName := ⟨RX4, "profitOf", "(I)I"⟩
abbrev cX4_marginOf : ByteArray := prog_6_method_14_code
def yX4_marginOf : MethodName := ⟨RX4, "marginOf", "(I)I"⟩
def RX5 : String := "ShopsAsOne$Street"
def TX5 : u_T := fun k => match k with
  | 0 => ("ShopsAsOne$Street", "owners", "I", false)
  | 1 => ("ShopsAsOne$Street", "shops", "I", false)
  | 2 => ("ShopsAsOne$Street", "sorts", "I", false)
  | 3 => ("ShopsAsOne$Street", "kind", "[I", true)
  | 4 => ("ShopsAsOne$Street", "n", "[I", true)
  | 5 => ("ShopsAsOne$Street", "place", "[I", true)
  | 6 => ("ShopsAsOne$Street", "cost", "[I", true)
  | 7 => ("ShopsAsOne$Street", "home", "[I", true)
  | 8 => ("ShopsAsOne$Street", "many", "[I", true)
  | 9 => ("ShopsAsOne$Street", "way", "[I", true)
  | 10 => ("ShopsAsOne$Street", "worth", "[I", true)
  | 11 => ("ShopsAsOne$Street", "liked", "[I", true)
  | 12 => ("ShopsAsOne$Street", "liking", "[I", true)
  | _ => ("ShopsAsOne$Street", "beside", "[[I", true)
def tyX5 : Nat → FieldType := fun k => match k with
  | 0 => .int
  | 1 => .int
  | 2 => .int
  | 3 => .array .int
  | 4 => .array .int
  | 5 => .array .int
  | 6 => .array .int
  | 7 => .array .int
  | 8 => .array .int
  | 9 => .array .int
  | 10 => .array .int
  | 11 => .array .int
  | 12 => .array .int
  | _ => .array (.array .int)
theorem nmX5 : ∀ a, a < 14 → ∀ b, b < 14 → a ≠ b → (TX5 a).2.1 ≠ (TX5 b).2.1 := by decide +kernel
theorem tyX5_ok : ∀ k, k < 14 → parseFieldDescriptor (TX5 k).2.2.1 = some (tyX5 k) := by decide +kernel
abbrev cX5_init : ByteArray := prog_7_method_1_code
def yX5_init : MethodName := ⟨RX5, "<init>", "()V"⟩
abbrev cX5_addOwner : ByteArray := prog_7_method_2_code
def yX5_addOwner : MethodName := ⟨RX5, "addOwner", "(II)I"⟩
abbrev cX5_addShop : ByteArray := prog_7_method_3_code
def yX5_addShop : MethodName := ⟨RX5, "addShop", "(II)I"⟩
abbrev cX5_addSort : ByteArray := prog_7_method_4_code
def yX5_addSort : MethodName := ⟨RX5, "addSort", "(IIIIII)I"⟩
abbrev cX5_measure : ByteArray := prog_7_method_5_code
def yX5_measure : MethodName := ⟨RX5, "measure", "(II)V"⟩
abbrev cX5_costTo : ByteArray := prog_7_method_6_code
def yX5_costTo : MethodName := ⟨RX5, "costTo", "(II)I"⟩
def RX6 : String := "ShopsAsOne$Text"
def TX6 : u_T := fun k => match k with
  | 0 => ("ShopsAsOne$Text", "letter", "[C", true)
  | _ => ("ShopsAsOne$Text", "length", "I", false)
def tyX6 : Nat → FieldType := fun k => match k with
  | 0 => .array .char
  | _ => .int
theorem nmX6 : ∀ a, a < 2 → ∀ b, b < 2 → a ≠ b → (TX6 a).2.1 ≠ (TX6 b).2.1 := by decide +kernel
theorem tyX6_ok : ∀ k, k < 2 → parseFieldDescriptor (TX6 k).2.2.1 = some (tyX6 k) := by decide +kernel
abbrev cX6_init : ByteArray := prog_8_method_1_code
def yX6_init : MethodName := ⟨RX6, "<init>", "()V"⟩
abbrev cX6_append : ByteArray := prog_8_method_2_code
def yX6_append : MethodName := ⟨RX6, "append", "(C)V"⟩
abbrev cX6_become : ByteArray := prog_8_method_3_code
def yX6_become : MethodName := ⟨RX6, "become", "(LShopsAsOne$Text;)V"⟩
abbrev cX6_at : ByteArray := prog_8_method_4_code
def yX6_at : MethodName := ⟨RX6, "at", "(I)C"⟩
abbrev cX6_isDigit : ByteArray := prog_8_method_5_code
def yX6_isDigit : MethodName := ⟨RX6, "isDigit", "(C)Z"⟩
def RX7 : String := "ShopsAsOne"
def TX7 : u_T := fun k => match k with
  | 0 => ("ShopsAsOne", "street", "LShopsAsOne$Street;", true)
  | 1 => ("ShopsAsOne", "now", "LShopsAsOne$Standing;", true)
  | 2 => ("ShopsAsOne", "trial", "LShopsAsOne$Standing;", true)
  | 3 => ("ShopsAsOne", "kept", "LShopsAsOne$Standing;", true)
  | 4 => ("ShopsAsOne", "bests", "LShopsAsOne$Bests;", true)
  | 5 => ("ShopsAsOne", "joining", "LShopsAsOne$Joining;", true)
  | 6 => ("ShopsAsOne", "page", "LShopsAsOne$Text;", true)
  | 7 => ("ShopsAsOne", "tests", "[LShopsAsOne$Text;", true)
  | 8 => ("ShopsAsOne", "grammar", "LShopsAsOne$Grammar;", true)
  | 9 => ("ShopsAsOne", "judge", "LShopsAsOne$Judge;", true)
  | 10 => ("ShopsAsOne", "testCount", "I", false)
  | 11 => ("ShopsAsOne", "wrongCount", "I", false)
  | 12 => ("ShopsAsOne", "isKept", "Z", false)
  | 13 => ("ShopsAsOne", "keptOwners", "I", false)
  | _ => ("ShopsAsOne", "keptShops", "I", false)
def tyX7 : Nat → FieldType := fun k => match k with
  | 0 => .object "ShopsAsOne$Street"
  | 1 => .object "ShopsAsOne$Standing"
  | 2 => .object "ShopsAsOne$Standing"
  | 3 => .object "ShopsAsOne$Standing"
  | 4 => .object "ShopsAsOne$Bests"
  | 5 => .object "ShopsAsOne$Joining"
  | 6 => .object "ShopsAsOne$Text"
  | 7 => .array (.object "ShopsAsOne$Text")
  | 8 => .object "ShopsAsOne$Grammar"
  | 9 => .object "ShopsAsOne$Judge"
  | 10 => .int
  | 11 => .int
  | 12 => .boolean
  | 13 => .int
  | _ => .int
theorem nmX7 : ∀ a, a < 15 → ∀ b, b < 15 → a ≠ b → (TX7 a).2.1 ≠ (TX7 b).2.1 := by decide +kernel
theorem tyX7_ok : ∀ k, k < 15 → parseFieldDescriptor (TX7 k).2.2.1 = some (tyX7 k) := by decide +kernel
abbrev cX7_init : ByteArray := prog_1_method_1_code
def yX7_init : MethodName := ⟨RX7, "<init>", "()V"⟩
abbrev cX7_owner : ByteArray := prog_1_method_2_code
def yX7_owner : MethodName := ⟨RX7, "owner", "(II)I"⟩
abbrev cX7_as : ByteArray := prog_1_method_3_code
def yX7_as : MethodName := ⟨RX7, "as", "(II)I"⟩
abbrev cX7_shop : ByteArray := prog_1_method_4_code
def yX7_shop : MethodName := ⟨RX7, "shop", "(IIII)I"⟩
abbrev cX7_about : ByteArray := prog_1_method_5_code
def yX7_about : MethodName := ⟨RX7, "about", "(II)I"⟩
abbrev cX7_price : ByteArray := prog_1_method_6_code
def yX7_price : MethodName := ⟨RX7, "price", "(II)I"⟩
abbrev cX7_sort : ByteArray := prog_1_method_7_code
def yX7_sort : MethodName := ⟨RX7, "sort", "(IIIIII)I"⟩
abbrev cX7_is : ByteArray := prog_1_method_8_code
def yX7_is : MethodName := ⟨RX7, "is", "(II)I"⟩
abbrev cX7_goes : ByteArray := prog_1_method_9_code
def yX7_goes : MethodName := ⟨RX7, "goes", "(I)I"⟩
abbrev cX7_spare : ByteArray := prog_1_method_10_code
def yX7_spare : MethodName := ⟨RX7, "spare", "(I)I"⟩
abbrev cX7_profit : ByteArray := prog_1_method_11_code
def yX7_profit : MethodName := ⟨RX7, "profit", "(I)I"⟩
abbrev cX7_best : ByteArray := prog_1_method_12_code
def yX7_best : MethodName := ⟨RX7, "best", "(II)I"⟩
abbrev cX7_turn : ByteArray := prog_1_method_13_code
def yX7_turn : MethodName := ⟨RX7, "turn", "(I)I"⟩
abbrev cX7_rest : ByteArray := prog_1_method_14_code
def yX7_rest : MethodName := ⟨RX7, "rest", "()I"⟩
abbrev cX7_otherwise : ByteArray := prog_1_method_15_code
def yX7_otherwise : MethodName := ⟨RX7, "otherwise", "()I"⟩
abbrev cX7_gain : ByteArray := prog_1_method_16_code
def yX7_gain : MethodName := ⟨RX7, "gain", "(I)I"⟩
abbrev cX7_gainOf : ByteArray := prog_1_method_17_code
def yX7_gainOf : MethodName := ⟨RX7, "gainOf", "(I)I"⟩
abbrev cX7_market : ByteArray := prog_1_method_18_code
def yX7_market : MethodName := ⟨RX7, "market", "(IIZ)I"⟩
abbrev cX7_nearMarket : ByteArray := prog_1_method_19_code
def yX7_nearMarket : MethodName := ⟨RX7, "nearMarket", "(II)I"⟩
abbrev cX7_leastMarket : ByteArray := prog_1_method_20_code
def yX7_leastMarket : MethodName := ⟨RX7, "leastMarket", "(II)I"⟩
abbrev cX7_wouldPay : ByteArray := prog_1_method_21_code
def yX7_wouldPay : MethodName := ⟨RX7, "wouldPay", "(II)Z"⟩
abbrev cX7_instead : ByteArray := prog_1_method_22_code
def yX7_instead : MethodName := ⟨RX7, "instead", "(II)I"⟩
abbrev cX7_from : ByteArray := prog_1_method_23_code
def yX7_from : MethodName := ⟨RX7, "from", "(II)I"⟩
abbrev cX7_merge : ByteArray := prog_1_method_24_code
def yX7_merge : MethodName := ⟨RX7, "merge", "(II)I"⟩
abbrev cX7_dearer : ByteArray := prog_1_method_25_code
def yX7_dearer : MethodName := ⟨RX7, "dearer", "(III)I"⟩
abbrev cX7_harm : ByteArray := prog_1_method_26_code
def yX7_harm : MethodName := ⟨RX7, "harm", "(III)I"⟩
abbrev cX7_soldOff : ByteArray := prog_1_method_27_code
def yX7_soldOff : MethodName := ⟨RX7, "soldOff", "(IIII)I"⟩
abbrev cX7_twice : ByteArray := prog_1_method_28_code
def yX7_twice : MethodName := ⟨RX7, "twice", "(IIIII)I"⟩
abbrev cX7_letters : ByteArray := prog_1_method_29_code
def yX7_letters : MethodName := ⟨RX7, "letters", "(J)I"⟩
abbrev cX7_codeAt : ByteArray := prog_1_method_30_code
def yX7_codeAt : MethodName := ⟨RX7, "codeAt", "(JI)I"⟩
abbrev cX7_blank : ByteArray := prog_1_method_31_code
def yX7_blank : MethodName := ⟨RX7, "blank", "()I"⟩
abbrev cX7_fault : ByteArray := prog_1_method_32_code
def yX7_fault : MethodName := ⟨RX7, "fault", "()I"⟩
abbrev cX7_test : ByteArray := prog_1_method_33_code
def yX7_test : MethodName := ⟨RX7, "test", "()I"⟩
abbrev cX7_bars : ByteArray := prog_1_method_34_code
def yX7_bars : MethodName := ⟨RX7, "bars", "(III)I"⟩
abbrev cX7_isBarred : ByteArray := prog_1_method_35_code
def yX7_isBarred : MethodName := ⟨RX7, "isBarred", "(III)Z"⟩
abbrev cX7_wrong : ByteArray := prog_1_method_36_code
def yX7_wrong : MethodName := ⟨RX7, "wrong", "(II)I"⟩
abbrev cX7_isWrong : ByteArray := prog_1_method_37_code
def yX7_isWrong : MethodName := ⟨RX7, "isWrong", "(ZZI)Z"⟩
abbrev cX7_image : ByteArray := prog_1_method_38_code
def yX7_image : MethodName := ⟨RX7, "image", "()I"⟩
abbrev cX7_restore : ByteArray := prog_1_method_39_code
def yX7_restore : MethodName := ⟨RX7, "restore", "()I"⟩
abbrev cX7_count : ByteArray := prog_1_method_40_code
def yX7_count : MethodName := ⟨RX7, "count", "(I)I"⟩
abbrev cX7_digest : ByteArray := prog_1_method_41_code
def yX7_digest : MethodName := ⟨RX7, "digest", "()J"⟩
abbrev cX7_mix : ByteArray := prog_1_method_42_code
def yX7_mix : MethodName := ⟨RX7, "mix", "(JJ)J"⟩
abbrev cX7_mixStreet : ByteArray := prog_1_method_43_code
def yX7_mixStreet : MethodName := ⟨RX7, "mixStreet", "(J)J"⟩
abbrev cX7_mixSorts : ByteArray := prog_1_method_44_code
def yX7_mixSorts : MethodName := ⟨RX7, "mixSorts", "(J)J"⟩
abbrev cX7_mixTests : ByteArray := prog_1_method_45_code
def yX7_mixTests : MethodName := ⟨RX7, "mixTests", "(J)J"⟩
abbrev cX7_isNot : ByteArray := prog_1_method_46_code
def yX7_isNot : MethodName := ⟨RX7, "isNot", "(III)Z"⟩
abbrev cX7_isNoOwner : ByteArray := prog_1_method_47_code
def yX7_isNoOwner : MethodName := ⟨RX7, "isNoOwner", "(I)Z"⟩
abbrev cX7_isNoShop : ByteArray := prog_1_method_48_code
def yX7_isNoShop : MethodName := ⟨RX7, "isNoShop", "(I)Z"⟩
abbrev cX7_isNoSort : ByteArray := prog_1_method_49_code
def yX7_isNoSort : MethodName := ⟨RX7, "isNoSort", "(I)Z"⟩
abbrev cX7_isNoTest : ByteArray := prog_1_method_50_code
def yX7_isNoTest : MethodName := ⟨RX7, "isNoTest", "(I)Z"⟩
abbrev cX7_areNotTwo : ByteArray := prog_1_method_51_code
def yX7_areNotTwo : MethodName := ⟨RX7, "areNotTwo", "(II)Z"⟩
abbrev cX7_areTooMany : ByteArray := prog_1_method_52_code
def yX7_areTooMany : MethodName := ⟨RX7, "areTooMany", "(II)Z"⟩
def RX8 : String := "ShopsAsOneModel"
def TX8 : u_T := fun k => match k with
  | 0 => ("ShopsAsOneModel", "owners", "I", false)
  | 1 => ("ShopsAsOneModel", "kindOf", "[I", true)
  | 2 => ("ShopsAsOneModel", "nOf", "[I", true)
  | 3 => ("ShopsAsOneModel", "isIn", "[Z", true)
  | 4 => ("ShopsAsOneModel", "shops", "I", false)
  | 5 => ("ShopsAsOneModel", "ownerOf", "[I", true)
  | 6 => ("ShopsAsOneModel", "placeOf", "[I", true)
  | 7 => ("ShopsAsOneModel", "costOf", "[I", true)
  | 8 => ("ShopsAsOneModel", "priceOf", "[I", true)
  | 9 => ("ShopsAsOneModel", "sorts", "I", false)
  | 10 => ("ShopsAsOneModel", "sortOf", "[I", true)
  | 11 => ("ShopsAsOneModel", "tests", "I", false)
  | 12 => ("ShopsAsOneModel", "testText", "[B", true)
  | 13 => ("ShopsAsOneModel", "testSize", "[I", true)
  | 14 => ("ShopsAsOneModel", "pageLength", "I", false)
  | 15 => ("ShopsAsOneModel", "page", "[B", true)
  | 16 => ("ShopsAsOneModel", "wrongsDone", "I", false)
  | 17 => ("ShopsAsOneModel", "isKept", "Z", false)
  | 18 => ("ShopsAsOneModel", "keptOwners", "I", false)
  | 19 => ("ShopsAsOneModel", "keptShops", "I", false)
  | 20 => ("ShopsAsOneModel", "keptPrice", "[I", true)
  | 21 => ("ShopsAsOneModel", "keptOwner", "[I", true)
  | 22 => ("ShopsAsOneModel", "keptIn", "[Z", true)
  | 23 => ("ShopsAsOneModel", "shutNow", "I", false)
  | 24 => ("ShopsAsOneModel", "soldNow", "[I", true)
  | 25 => ("ShopsAsOneModel", "bestPrice", "[I", true)
  | 26 => ("ShopsAsOneModel", "bestIn", "Z", false)
  | 27 => ("ShopsAsOneModel", "bestProfit", "I", false)
  | 28 => ("ShopsAsOneModel", "tried", "[I", true)
  | 29 => ("ShopsAsOneModel", "wasPrice", "[I", true)
  | 30 => ("ShopsAsOneModel", "wasOwner", "[I", true)
  | 31 => ("ShopsAsOneModel", "wasIn", "[Z", true)
  | 32 => ("ShopsAsOneModel", "spareBefore", "[I", true)
  | 33 => ("ShopsAsOneModel", "spareBehind", "[I", true)
  | 34 => ("ShopsAsOneModel", "roundsBehind", "I", false)
  | 35 => ("ShopsAsOneModel", "faultAt", "I", false)
  | 36 => ("ShopsAsOneModel", "isWhole", "Z", false)
  | 37 => ("ShopsAsOneModel", "anyTerm", "[Z", true)
  | 38 => ("ShopsAsOneModel", "allFactors", "[Z", true)
  | 39 => ("ShopsAsOneModel", "isDenied", "[Z", true)
  | 40 => ("ShopsAsOneModel", "deep", "I", false)
  | _ => ("ShopsAsOneModel", "h", "J", false)
def tyX8 : Nat → FieldType := fun k => match k with
  | 0 => .int
  | 1 => .array .int
  | 2 => .array .int
  | 3 => .array .boolean
  | 4 => .int
  | 5 => .array .int
  | 6 => .array .int
  | 7 => .array .int
  | 8 => .array .int
  | 9 => .int
  | 10 => .array .int
  | 11 => .int
  | 12 => .array .byte
  | 13 => .array .int
  | 14 => .int
  | 15 => .array .byte
  | 16 => .int
  | 17 => .boolean
  | 18 => .int
  | 19 => .int
  | 20 => .array .int
  | 21 => .array .int
  | 22 => .array .boolean
  | 23 => .int
  | 24 => .array .int
  | 25 => .array .int
  | 26 => .boolean
  | 27 => .int
  | 28 => .array .int
  | 29 => .array .int
  | 30 => .array .int
  | 31 => .array .boolean
  | 32 => .array .int
  | 33 => .array .int
  | 34 => .int
  | 35 => .int
  | 36 => .boolean
  | 37 => .array .boolean
  | 38 => .array .boolean
  | 39 => .array .boolean
  | 40 => .int
  | _ => .long
theorem nmX8 : ∀ a, a < 42 → ∀ b, b < 42 → a ≠ b → (TX8 a).2.1 ≠ (TX8 b).2.1 := by decide +kernel
theorem tyX8_ok : ∀ k, k < 42 → parseFieldDescriptor (TX8 k).2.2.1 = some (tyX8 k) := by decide +kernel
abbrev cX8_init : ByteArray := prog_10_method_1_code
def yX8_init : MethodName := ⟨RX8, "<init>", "()V"⟩
abbrev cX8_within : ByteArray := prog_10_method_3_code
def yX8_within : MethodName := ⟨RX8, "within", "(III)Z"⟩
abbrev cX8_size : ByteArray := prog_10_method_4_code
def yX8_size : MethodName := ⟨RX8, "size", "(I)I"⟩
abbrev cX8_isOwner : ByteArray := prog_10_method_5_code
def yX8_isOwner : MethodName := ⟨RX8, "isOwner", "(I)Z"⟩
abbrev cX8_isShop : ByteArray := prog_10_method_6_code
def yX8_isShop : MethodName := ⟨RX8, "isShop", "(I)Z"⟩
abbrev cX8_isSort : ByteArray := prog_10_method_7_code
def yX8_isSort : MethodName := ⟨RX8, "isSort", "(I)Z"⟩
abbrev cX8_owner : ByteArray := prog_10_method_8_code
def yX8_owner : MethodName := ⟨RX8, "owner", "(II)I"⟩
abbrev cX8_as : ByteArray := prog_10_method_9_code
def yX8_as : MethodName := ⟨RX8, "as", "(II)I"⟩
abbrev cX8_shopsOf : ByteArray := prog_10_method_10_code
def yX8_shopsOf : MethodName := ⟨RX8, "shopsOf", "(I)I"⟩
abbrev cX8_shop : ByteArray := prog_10_method_11_code
def yX8_shop : MethodName := ⟨RX8, "shop", "(IIII)I"⟩
abbrev cX8_isOpen : ByteArray := prog_10_method_12_code
def yX8_isOpen : MethodName := ⟨RX8, "isOpen", "(I)Z"⟩
abbrev cX8_told : ByteArray := prog_10_method_13_code
def yX8_told : MethodName := ⟨RX8, "told", "(II)I"⟩
abbrev cX8_isTo : ByteArray := prog_10_method_14_code
def yX8_isTo : MethodName := ⟨RX8, "isTo", "(II)I"⟩
abbrev cX8_goesTo : ByteArray := prog_10_method_15_code
def yX8_goesTo : MethodName := ⟨RX8, "goesTo", "(I)I"⟩
abbrev cX8_spareOf : ByteArray := prog_10_method_16_code
def yX8_spareOf : MethodName := ⟨RX8, "spareOf", "(I)I"⟩
abbrev cX8_laySold : ByteArray := prog_10_method_17_code
def yX8_laySold : MethodName := ⟨RX8, "laySold", "()I"⟩
abbrev cX8_profitOf : ByteArray := prog_10_method_18_code
def yX8_profitOf : MethodName := ⟨RX8, "profitOf", "(I)I"⟩
abbrev cX8_aboutOf : ByteArray := prog_10_method_19_code
def yX8_aboutOf : MethodName := ⟨RX8, "aboutOf", "(II)I"⟩
abbrev cX8_about : ByteArray := prog_10_method_20_code
def yX8_about : MethodName := ⟨RX8, "about", "(II)I"⟩
abbrev cX8_price : ByteArray := prog_10_method_21_code
def yX8_price : MethodName := ⟨RX8, "price", "(II)I"⟩
abbrev cX8_sort : ByteArray := prog_10_method_22_code
def yX8_sort : MethodName := ⟨RX8, "sort", "(IIIIII)I"⟩
abbrev cX8_is : ByteArray := prog_10_method_23_code
def yX8_is : MethodName := ⟨RX8, "is", "(II)I"⟩
abbrev cX8_goes : ByteArray := prog_10_method_24_code
def yX8_goes : MethodName := ⟨RX8, "goes", "(I)I"⟩
abbrev cX8_spare : ByteArray := prog_10_method_25_code
def yX8_spare : MethodName := ⟨RX8, "spare", "(I)I"⟩
abbrev cX8_profit : ByteArray := prog_10_method_26_code
def yX8_profit : MethodName := ⟨RX8, "profit", "(I)I"⟩
abbrev cX8_layBest : ByteArray := prog_10_method_27_code
def yX8_layBest : MethodName := ⟨RX8, "layBest", "(I)V"⟩
abbrev cX8_layCode : ByteArray := prog_10_method_28_code
def yX8_layCode : MethodName := ⟨RX8, "layCode", "(IIIZ)V"⟩
abbrev cX8_best : ByteArray := prog_10_method_29_code
def yX8_best : MethodName := ⟨RX8, "best", "(II)I"⟩
abbrev cX8_turnOf : ByteArray := prog_10_method_30_code
def yX8_turnOf : MethodName := ⟨RX8, "turnOf", "(I)I"⟩
abbrev cX8_turn : ByteArray := prog_10_method_31_code
def yX8_turn : MethodName := ⟨RX8, "turn", "(I)I"⟩
abbrev cX8_goOn : ByteArray := prog_10_method_32_code
def yX8_goOn : MethodName := ⟨RX8, "goOn", "()I"⟩
abbrev cX8_hold : ByteArray := prog_10_method_33_code
def yX8_hold : MethodName := ⟨RX8, "hold", "()V"⟩
abbrev cX8_back : ByteArray := prog_10_method_34_code
def yX8_back : MethodName := ⟨RX8, "back", "()V"⟩
abbrev cX8_rest : ByteArray := prog_10_method_35_code
def yX8_rest : MethodName := ⟨RX8, "rest", "()I"⟩
abbrev cX8_gainOf : ByteArray := prog_10_method_36_code
def yX8_gainOf : MethodName := ⟨RX8, "gainOf", "(I)I"⟩
abbrev cX8_otherwise : ByteArray := prog_10_method_37_code
def yX8_otherwise : MethodName := ⟨RX8, "otherwise", "()I"⟩
abbrev cX8_gain : ByteArray := prog_10_method_38_code
def yX8_gain : MethodName := ⟨RX8, "gain", "(I)I"⟩
abbrev cX8_profitOfSet : ByteArray := prog_10_method_39_code
def yX8_profitOfSet : MethodName := ⟨RX8, "profitOfSet", "(I)I"⟩
abbrev cX8_pays : ByteArray := prog_10_method_40_code
def yX8_pays : MethodName := ⟨RX8, "pays", "(II)Z"⟩
abbrev cX8_openSet : ByteArray := prog_10_method_41_code
def yX8_openSet : MethodName := ⟨RX8, "openSet", "()I"⟩
abbrev cX8_ones : ByteArray := prog_10_method_42_code
def yX8_ones : MethodName := ⟨RX8, "ones", "(I)I"⟩
abbrev cX8_nearestMarket : ByteArray := prog_10_method_43_code
def yX8_nearestMarket : MethodName := ⟨RX8, "nearestMarket", "(II)I"⟩
abbrev cX8_leastMarket : ByteArray := prog_10_method_44_code
def yX8_leastMarket : MethodName := ⟨RX8, "leastMarket", "(II)I"⟩
abbrev cX8_market : ByteArray := prog_10_method_45_code
def yX8_market : MethodName := ⟨RX8, "market", "(IIZ)I"⟩
abbrev cX8_insteadOf : ByteArray := prog_10_method_46_code
def yX8_insteadOf : MethodName := ⟨RX8, "insteadOf", "(II)I"⟩
abbrev cX8_instead : ByteArray := prog_10_method_47_code
def yX8_instead : MethodName := ⟨RX8, "instead", "(II)I"⟩
abbrev cX8_from : ByteArray := prog_10_method_48_code
def yX8_from : MethodName := ⟨RX8, "from", "(II)I"⟩
abbrev cX8_areTwo : ByteArray := prog_10_method_49_code
def yX8_areTwo : MethodName := ⟨RX8, "areTwo", "(II)Z"⟩
abbrev cX8_fits : ByteArray := prog_10_method_50_code
def yX8_fits : MethodName := ⟨RX8, "fits", "(II)Z"⟩
abbrev cX8_mergeNow : ByteArray := prog_10_method_51_code
def yX8_mergeNow : MethodName := ⟨RX8, "mergeNow", "(II)V"⟩
abbrev cX8_merge : ByteArray := prog_10_method_52_code
def yX8_merge : MethodName := ⟨RX8, "merge", "(II)I"⟩
abbrev cX8_layBefore : ByteArray := prog_10_method_53_code
def yX8_layBefore : MethodName := ⟨RX8, "layBefore", "()Z"⟩
abbrev cX8_layBehind : ByteArray := prog_10_method_54_code
def yX8_layBehind : MethodName := ⟨RX8, "layBehind", "(IIIIII)Z"⟩
abbrev cX8_harmNow : ByteArray := prog_10_method_55_code
def yX8_harmNow : MethodName := ⟨RX8, "harmNow", "(Z)I"⟩
abbrev cX8_dearer : ByteArray := prog_10_method_56_code
def yX8_dearer : MethodName := ⟨RX8, "dearer", "(III)I"⟩
abbrev cX8_harm : ByteArray := prog_10_method_57_code
def yX8_harm : MethodName := ⟨RX8, "harm", "(III)I"⟩
abbrev cX8_soldOff : ByteArray := prog_10_method_58_code
def yX8_soldOff : MethodName := ⟨RX8, "soldOff", "(IIII)I"⟩
abbrev cX8_isBelow : ByteArray := prog_10_method_59_code
def yX8_isBelow : MethodName := ⟨RX8, "isBelow", "(I)Z"⟩
abbrev cX8_twice : ByteArray := prog_10_method_60_code
def yX8_twice : MethodName := ⟨RX8, "twice", "(IIIII)I"⟩
abbrev cX8_letters : ByteArray := prog_10_method_61_code
def yX8_letters : MethodName := ⟨RX8, "letters", "(J)I"⟩
abbrev cX8_blank : ByteArray := prog_10_method_62_code
def yX8_blank : MethodName := ⟨RX8, "blank", "()I"⟩
abbrev cX8_isDigit : ByteArray := prog_10_method_63_code
def yX8_isDigit : MethodName := ⟨RX8, "isDigit", "(I)Z"⟩
abbrev cX8_isName : ByteArray := prog_10_method_64_code
def yX8_isName : MethodName := ⟨RX8, "isName", "(I)Z"⟩
abbrev cX8_readPage : ByteArray := prog_10_method_65_code
def yX8_readPage : MethodName := ⟨RX8, "readPage", "()V"⟩
abbrev cX8_fault : ByteArray := prog_10_method_66_code
def yX8_fault : MethodName := ⟨RX8, "fault", "()I"⟩
abbrev cX8_test : ByteArray := prog_10_method_67_code
def yX8_test : MethodName := ⟨RX8, "test", "()I"⟩
abbrev cX8_isTest : ByteArray := prog_10_method_68_code
def yX8_isTest : MethodName := ⟨RX8, "isTest", "(I)Z"⟩
abbrev cX8_soldBy : ByteArray := prog_10_method_69_code
def yX8_soldBy : MethodName := ⟨RX8, "soldBy", "(I)I"⟩
abbrev cX8_valueOf : ByteArray := prog_10_method_70_code
def yX8_valueOf : MethodName := ⟨RX8, "valueOf", "(III)I"⟩
abbrev cX8_openGroup : ByteArray := prog_10_method_71_code
def yX8_openGroup : MethodName := ⟨RX8, "openGroup", "()V"⟩
abbrev cX8_factor : ByteArray := prog_10_method_72_code
def yX8_factor : MethodName := ⟨RX8, "factor", "(Z)V"⟩
abbrev cX8_barsNow : ByteArray := prog_10_method_73_code
def yX8_barsNow : MethodName := ⟨RX8, "barsNow", "(III)Z"⟩
abbrev cX8_bars : ByteArray := prog_10_method_74_code
def yX8_bars : MethodName := ⟨RX8, "bars", "(III)I"⟩
abbrev cX8_wrong : ByteArray := prog_10_method_75_code
def yX8_wrong : MethodName := ⟨RX8, "wrong", "(II)I"⟩
abbrev cX8_image : ByteArray := prog_10_method_76_code
def yX8_image : MethodName := ⟨RX8, "image", "()I"⟩
abbrev cX8_restore : ByteArray := prog_10_method_77_code
def yX8_restore : MethodName := ⟨RX8, "restore", "()I"⟩
abbrev cX8_howMany : ByteArray := prog_10_method_78_code
def yX8_howMany : MethodName := ⟨RX8, "howMany", "(I)I"⟩
abbrev cX8_count : ByteArray := prog_10_method_79_code
def yX8_count : MethodName := ⟨RX8, "count", "(I)I"⟩
abbrev cX8_mix : ByteArray := prog_10_method_80_code
def yX8_mix : MethodName := ⟨RX8, "mix", "(J)V"⟩
abbrev cX8_digest : ByteArray := prog_10_method_81_code
def yX8_digest : MethodName := ⟨RX8, "digest", "()J"⟩
def RJ6 : String := "java/lang/Integer"
def TJ6 : u_T := fun k => match k with
  | _ => ("", "", "", false)
def tyJ6 : Nat → FieldType := fun k => match k with
  | _ => .int
abbrev cJ6_bitCount_0f7a4 : ByteArray := prog_11_method_49_code
def yJ6_bitCount_0f7a4 : MethodName := ⟨RJ6, "bitCount", "(I)I"⟩
def RJ9 : String := "java/lang/Math"
def TJ9 : u_T := fun k => match k with
  | _ => ("", "", "", false)
def tyJ9 : Nat → FieldType := fun k => match k with
  | _ => .int
abbrev cJ9_abs_0f7a4 : ByteArray := prog_12_method_59_code
def yJ9_abs_0f7a4 : MethodName := ⟨RJ9, "abs", "(I)I"⟩
abbrev cJ9_max_7cf53 : ByteArray := prog_12_method_65_code
def yJ9_max_7cf53 : MethodName := ⟨RJ9, "max", "(II)I"⟩
abbrev cJ9_min_7cf53 : ByteArray := prog_12_method_69_code
def yJ9_min_7cf53 : MethodName := ⟨RJ9, "min", "(II)I"⟩
def RL : String := "ShopsAsOneLaw"
abbrev cL_law : ByteArray := code
def yL_law : MethodName := ⟨RL, "law", "([I)Z"⟩
abbrev vwCl : List vw_C := [(RX0, TX0, 13), (RX1, TX1, 3), (RX2, TX2, 5), (RX3, TX3, 10), (RX4, TX4, 4), (RX5, TX5, 14), (RX6, TX6, 2), (RX7, TX7, 15), (RX8, TX8, 42)]
end
section
/-! G-layer: 'gx_G Γ k n pc V st ws': from every heap that holds the world ws, with locals V and operand stack st, the machine at pc comes to Γ's goal -/
abbrev gx_T : Type := (Program × Launch × Env × Room × State × MethodId × Array Value × List Frame × Method × Code) × (va_G × List vw_C × List (ClassId × FieldType)) × (Nat → Prop) × Heap × (State → Prop) × Nat
abbrev gx_p (Γ : gx_T) : Program := Γ.1.1
abbrev gx_l (Γ : gx_T) : Launch := Γ.1.2.1
abbrev gx_e (Γ : gx_T) : Env := Γ.1.2.2.1
abbrev gx_R (Γ : gx_T) : Room := Γ.1.2.2.2.1
abbrev gx_s (Γ : gx_T) : State := Γ.1.2.2.2.2.1
abbrev gx_m (Γ : gx_T) : MethodId := Γ.1.2.2.2.2.2.1
abbrev gx_args (Γ : gx_T) : Array Value := Γ.1.2.2.2.2.2.2.1
abbrev gx_below (Γ : gx_T) : List Frame := Γ.1.2.2.2.2.2.2.2.1
abbrev gx_meth (Γ : gx_T) : Method := Γ.1.2.2.2.2.2.2.2.2.1
abbrev gx_c (Γ : gx_T) : Code := Γ.1.2.2.2.2.2.2.2.2.2
abbrev gx_D (Γ : gx_T) : va_G := Γ.2.1.1
abbrev gx_cl (Γ : gx_T) : List vw_C := Γ.2.1.2.1
abbrev gx_ty (Γ : gx_T) : List (ClassId × FieldType) := Γ.2.1.2.2
abbrev gx_A (Γ : gx_T) : Nat → Prop := Γ.2.2.1
abbrev gx_H0 (Γ : gx_T) : Heap := Γ.2.2.2.1
abbrev gx_Q (Γ : gx_T) : State → Prop := Γ.2.2.2.2.1
abbrev gx_nL (Γ : gx_T) : Nat := Γ.2.2.2.2.2
/-- the goal W over Γ -/
abbrev gx_W (Γ : gx_T) (H : Heap) (locs : List Loc) (k n : Nat) (g : JFrame) : Prop := W (gx_p Γ) (gx_l Γ) (gx_e Γ) (gx_R Γ) (gx_s Γ) (gx_m Γ) (gx_args Γ) (gx_below Γ) (gx_meth Γ) (gx_c Γ) H locs k n (gx_Q Γ) g
/-- the locals: V's places, .null says nothing -/
def gx_L (ls : Array Slot) (nL : Nat) (V : List Value) : Prop := ∃ l, lv_has ls nL l ∧ ∀ (i : Nat) (v : Value), V[i]? = some v → v ≠ .null → (i, v) ∈ l
def gx_G (Γ : gx_T) (k n pc : Nat) (V st : List Value) (ws : va_W) : Prop := ∀ (H : Heap) (locs : List Loc) (ls : Array Slot), va_P (gx_D Γ) (gx_cl Γ) ws H → va_D (gx_A Γ) ws → va_S (gx_A Γ) (gx_H0 Γ) H locs → gx_L ls (gx_nL Γ) V → gx_W Γ H locs k n (F0 (gx_m Γ) pc ls st)
/-- what stays through a method's body -/
def gx_ok (Γ : gx_T) (cc : ByteArray) (own : String) (Ts : List Cond) (d : Nat) : Prop := (gx_p Γ).tables.exec = Jvm.exec ∧ (gx_c Γ).code = cc ∧ (gx_c Γ).maxLocals = gx_nL Γ ∧ (gx_s Γ).vm.findClass own = some (gx_m Γ).cls ∧ (∀ w ∈ Ts, w.before (gx_args Γ) (gx_s Γ) = true) ∧ va_K (gx_D Γ) (gx_cl Γ) (gx_ty Γ) (gx_s Γ) ∧ (∀ q, (gx_H0 Γ).size ≤ q → gx_A Γ q) ∧ (gx_meth Γ).locks = false ∧ d ≤ (gx_R Γ).frames ∧ 40 * d ≤ (gx_R Γ).locals
theorem gx_L_at {ls : Array Slot} {nL i : Nat} {V : List Value} {v : Value} (h : gx_L ls nL V) (hv : V[i]? = some v) (hn : v ≠ .null) : ls[i]? = some (.val v) := by
  obtain ⟨l, h1, h2⟩ := h
  exact h1.2.2 (i, v) (h2 i v hv hn)
theorem gx_L_size {ls : Array Slot} {nL : Nat} {V : List Value} (h : gx_L ls nL V) : ls.size = nL := by
  obtain ⟨l, h1, h2⟩ := h
  exact h1.1
/-- fewer known locals -/
def gx_le : List Value → List Value → Prop
  | [], _ => True
  | _ :: _, [] => False
  | v :: vs, w :: ws => (v = .null ∨ v = w) ∧ gx_le vs ws
theorem gx_le_0 {V : List Value} : gx_le [] V := trivial
theorem gx_le_k {v w : Value} {vs ws : List Value} (e : v = w) (h : gx_le vs ws) : gx_le (v :: vs) (w :: ws) := ⟨Or.inr e, h⟩
theorem gx_le_n {w : Value} {vs ws : List Value} (h : gx_le vs ws) : gx_le (.null :: vs) (w :: ws) := ⟨Or.inl rfl, h⟩
theorem gx_le_at : ∀ {V' V : List Value} {i : Nat} {v : Value}, gx_le V' V → V'[i]? = some v → v ≠ .null → V[i]? = some v
  | [], _, _, _, _, h, _ => by simp at h
  | _ :: _, [], _, _, h, _, _ => h.elim
  | a :: V', b :: V, 0, v, h, h1, h2 => by
    simp only [List.getElem?_cons_zero, Option.some.injEq] at h1 ⊢
    rcases h.1 with e | e
    · exact absurd (h1.symm.trans e) h2
    · rw [← e]; exact h1
  | a :: V', b :: V, i + 1, v, h, h1, h2 => by
    simp only [List.getElem?_cons_succ] at h1 ⊢
    exact gx_le_at h.2 h1 h2
theorem gx_L_le {ls : Array Slot} {nL : Nat} {V V' : List Value} (h : gx_L ls nL V) (hl : gx_le V' V) : gx_L ls nL V' := by
  obtain ⟨l, h1, h2⟩ := h
  exact ⟨l, h1, fun i v hv hn => h2 i v (gx_le_at hl hv hn) hn⟩
/-- no long lies just ahead of place i -/
def gx_nl (V : List Value) : Nat → Prop
  | 0 => True
  | i + 1 => match V[i]? with
    | some (.long _) => False
    | some (.double _) => False
    | _ => True
theorem gx_nl_cat {V : List Value} {i j : Nat} {v : Value} (h : gx_nl V i) (hj : j + 1 = i) (hv : V[j]? = some v) : v.category ≠ 2 := by
  subst hj
  simp only [gx_nl, hv] at h
  cases v <;> simp_all [Value.category]
theorem gx_L_set1 {ls ls' : Array Slot} {nL i : Nat} {V : List Value} {v : Value} {l : List (Nat × Value)} (h2 : ∀ (j : Nat) (w : Value), V[j]? = some w → w ≠ .null → (j, w) ∈ l) (hnl : gx_nl V i) (hl : lv_has ls' nL ((i, v) :: l.filter (fun q => !(q.1 == i) && !(q.1 + 1 == i && q.2.category == 2)))) : gx_L ls' nL (V.set i v) := by
  refine ⟨_, hl, fun j w hj hn => ?_⟩
  rw [List.getElem?_set] at hj
  by_cases e : i = j
  · subst e
    rw [if_pos rfl] at hj
    split at hj
    · cases hj; exact List.mem_cons_self
    · cases hj
  · rw [if_neg e] at hj
    refine List.mem_cons_of_mem _ (List.mem_filter.mpr ⟨h2 j w hj hn, ?_⟩)
    have h3 : j ≠ i := fun q => e q.symm
    by_cases e2 : j + 1 = i
    · have := gx_nl_cat hnl e2 hj
      simp [h3, this]
    · simp [h3, e2]
theorem gx_L_set2 {ls ls' : Array Slot} {nL i : Nat} {V : List Value} {v : Value} {l : List (Nat × Value)} (h2 : ∀ (j : Nat) (w : Value), V[j]? = some w → w ≠ .null → (j, w) ∈ l) (hnl : gx_nl V i) (hl : lv_has ls' nL ((i, v) :: l.filter (fun q => !(q.1 == i) && (!(q.1 == i + 1) && !(q.1 + 1 == i && q.2.category == 2))))) : gx_L ls' nL ((V.set i v).set (i + 1) .null) := by
  refine ⟨_, hl, fun j w hj hn => ?_⟩
  rw [List.getElem?_set] at hj
  by_cases e1 : i + 1 = j
  · rw [if_pos e1] at hj
    split at hj
    · cases hj; exact absurd rfl hn
    · cases hj
  · rw [if_neg e1, List.getElem?_set] at hj
    by_cases e : i = j
    · subst e
      rw [if_pos rfl] at hj
      split at hj
      · cases hj; exact List.mem_cons_self
      · cases hj
    · rw [if_neg e] at hj
      refine List.mem_cons_of_mem _ (List.mem_filter.mpr ⟨h2 j w hj hn, ?_⟩)
      have h3 : j ≠ i := fun q => e q.symm
      have h4 : j ≠ i + 1 := fun q => e1 q.symm
      by_cases e2 : j + 1 = i
      · have := gx_nl_cat hnl e2 hj
        simp [h3, h4, this]
      · simp [h3, h4, e2]
/-- the arguments as locals -/
def gx_V : List Value → List Value
  | [] => []
  | .long x :: vs => .long x :: .null :: gx_V vs
  | .double x :: vs => .double x :: .null :: gx_V vs
  | v :: vs => v :: gx_V vs
theorem gx_V_in : ∀ (vs : List Value) (k i : Nat) (v : Value), (gx_V vs)[i]? = some v → v ≠ .null → (k + i, v) ∈ lv_args k vs
  | [], k, i, v, h, _ => by simp [gx_V] at h
  | w :: vs, k, i, v, h, hn => by
    have one : ∀ (x : Value), gx_V (x :: vs) = x :: gx_V vs → x.category = 1 → (gx_V (x :: vs))[i]? = some v → (k + i, v) ∈ lv_args k (x :: vs) := by
      intro x e hc h
      rw [e] at h
      cases i with
      | zero => simp at h; subst h; exact List.mem_cons_self
      | succ i =>
        have h' : (gx_V vs)[i]? = some v := by simpa using h
        have := gx_V_in vs (k + 1) i v h' hn
        rw [show k + (i + 1) = k + 1 + i by omega]
        exact List.mem_cons_of_mem _ (by rw [if_neg (by rw [hc]; decide)]; exact this)
    have two : ∀ (x : Value), gx_V (x :: vs) = x :: .null :: gx_V vs → x.category = 2 → (gx_V (x :: vs))[i]? = some v → (k + i, v) ∈ lv_args k (x :: vs) := by
      intro x e hc h
      rw [e] at h
      match i, h with
      | 0, h => simp at h; subst h; exact List.mem_cons_self
      | 1, h => simp at h; exact absurd h.symm hn
      | i + 2, h =>
        have h' : (gx_V vs)[i]? = some v := by simpa using h
        have := gx_V_in vs (k + 2) i v h' hn
        rw [show k + (i + 2) = k + 2 + i by omega]
        exact List.mem_cons_of_mem _ (by rw [if_pos hc]; exact this)
    cases w with
    | long x => exact two _ rfl rfl h
    | double x => exact two _ rfl rfl h
    | _ => exact one _ rfl rfl h
theorem gx_L_entry {ls : Array Slot} {n : Nat} {vs V : List Value} (h : lv_has ls n (lv_args 0 vs)) (hV : ∀ (i : Nat) (v : Value), V[i]? = some v → v ≠ .null → (gx_V vs)[i]? = some v) : gx_L ls n V :=
  ⟨_, h, fun i v hv hn => by have := gx_V_in vs 0 i v (hV i v hv hn) hn; rwa [Nat.zero_add] at this⟩
theorem gx_L_pad {ls : Array Slot} {n : Nat} {vs : List Value} (h : lv_has ls n (lv_args 0 vs)) (k : Nat) : gx_L ls n (gx_V vs ++ List.replicate k .null) := by
  refine gx_L_entry h (fun i v hv hn => ?_)
  rcases Nat.lt_or_ge i (gx_V vs).length with q | q
  · rwa [List.getElem?_append_left q] at hv
  · rw [List.getElem?_append_right q] at hv
    have := List.mem_of_getElem? hv
    exact absurd (List.eq_of_mem_replicate this) hn
section GX
variable {Γ : gx_T} {cc : ByteArray} {own : String} {Ts : List Cond} {d k n pc : Nat} {V st : List Value} {ws : va_W}
theorem gx_weak {V' : List Value} (hl : gx_le V' V) (kk : gx_G Γ k n pc V' st ws) : gx_G Γ k n pc V st ws := fun H locs ls hP hD hS h => kk H locs ls hP hD hS (gx_L_le h hl)
theorem gx_world {ws' : va_W} (e : ws = ws') (kk : gx_G Γ k n pc V st ws') : gx_G Γ k n pc V st ws := e ▸ kk
theorem gx_widen {k' n' : Nat} (h1 : k ≤ k') (h2 : n ≤ n') (kk : gx_G Γ k' n' pc V st ws) : gx_G Γ k n pc V st ws := fun H locs ls hP hD hS h => W.widen h1 h2 (kk H locs ls hP hD hS h)

theorem gx_iconstm1 (C : gx_ok Γ cc own Ts d) (hd : decode cc pc = .ok (.iconst (-1), 1)) (kk : gx_G Γ k n (pc + 1) V (.int (-1) :: st) ws) : gx_G Γ k n pc V st ws := fun H locs ls hP hD hS hl => lv_iconst (v := (-1)) C.1 C.2.1 hd (by decide) (kk H locs ls hP hD hS hl)
theorem gx_iconst0 (C : gx_ok Γ cc own Ts d) (hd : decode cc pc = .ok (.iconst 0, 1)) (kk : gx_G Γ k n (pc + 1) V (.int 0 :: st) ws) : gx_G Γ k n pc V st ws := fun H locs ls hP hD hS hl => lv_iconst (v := 0) C.1 C.2.1 hd (by decide) (kk H locs ls hP hD hS hl)
theorem gx_iconst1 (C : gx_ok Γ cc own Ts d) (hd : decode cc pc = .ok (.iconst 1, 1)) (kk : gx_G Γ k n (pc + 1) V (.int 1 :: st) ws) : gx_G Γ k n pc V st ws := fun H locs ls hP hD hS hl => lv_iconst (v := 1) C.1 C.2.1 hd (by decide) (kk H locs ls hP hD hS hl)
theorem gx_iconst2 (C : gx_ok Γ cc own Ts d) (hd : decode cc pc = .ok (.iconst 2, 1)) (kk : gx_G Γ k n (pc + 1) V (.int 2 :: st) ws) : gx_G Γ k n pc V st ws := fun H locs ls hP hD hS hl => lv_iconst (v := 2) C.1 C.2.1 hd (by decide) (kk H locs ls hP hD hS hl)
theorem gx_iconst3 (C : gx_ok Γ cc own Ts d) (hd : decode cc pc = .ok (.iconst 3, 1)) (kk : gx_G Γ k n (pc + 1) V (.int 3 :: st) ws) : gx_G Γ k n pc V st ws := fun H locs ls hP hD hS hl => lv_iconst (v := 3) C.1 C.2.1 hd (by decide) (kk H locs ls hP hD hS hl)
theorem gx_iconst4 (C : gx_ok Γ cc own Ts d) (hd : decode cc pc = .ok (.iconst 4, 1)) (kk : gx_G Γ k n (pc + 1) V (.int 4 :: st) ws) : gx_G Γ k n pc V st ws := fun H locs ls hP hD hS hl => lv_iconst (v := 4) C.1 C.2.1 hd (by decide) (kk H locs ls hP hD hS hl)
theorem gx_iconst5 (C : gx_ok Γ cc own Ts d) (hd : decode cc pc = .ok (.iconst 5, 1)) (kk : gx_G Γ k n (pc + 1) V (.int 5 :: st) ws) : gx_G Γ k n pc V st ws := fun H locs ls hP hD hS hl => lv_iconst (v := 5) C.1 C.2.1 hd (by decide) (kk H locs ls hP hD hS hl)
theorem gx_bipush (C : gx_ok Γ cc own Ts d) {x : Int} {v : Int32} (hd : decode cc pc = .ok (.bipush x, 2)) (hv : (Int8.ofInt x).toInt32 = v) (kk : gx_G Γ k n (pc + 2) V (.int v :: st) ws) : gx_G Γ k n pc V st ws := fun H locs ls hP hD hS hl => lv_bipush C.1 C.2.1 hd hv (kk H locs ls hP hD hS hl)
theorem gx_sipush (C : gx_ok Γ cc own Ts d) {x : Int} {v : Int32} (hd : decode cc pc = .ok (.sipush x, 3)) (hv : (Int16.ofInt x).toInt32 = v) (kk : gx_G Γ k n (pc + 3) V (.int v :: st) ws) : gx_G Γ k n pc V st ws := fun H locs ls hP hD hS hl => lv_sipush C.1 C.2.1 hd hv (kk H locs ls hP hD hS hl)
theorem gx_lconst0 (C : gx_ok Γ cc own Ts d) (hd : decode cc pc = .ok (.lconst 0, 1)) (kk : gx_G Γ k n (pc + 1) V (.long 0 :: st) ws) : gx_G Γ k n pc V st ws := fun H locs ls hP hD hS hl => lv_lconst (v := 0) C.1 C.2.1 hd (by decide) (kk H locs ls hP hD hS hl)
theorem gx_lconst1 (C : gx_ok Γ cc own Ts d) (hd : decode cc pc = .ok (.lconst 1, 1)) (kk : gx_G Γ k n (pc + 1) V (.long 1 :: st) ws) : gx_G Γ k n pc V st ws := fun H locs ls hP hD hS hl => lv_lconst (v := 1) C.1 C.2.1 hd (by decide) (kk H locs ls hP hD hS hl)
theorem gx_ldc (C : gx_ok Γ cc own Ts d) {ix : Nat} {v : Int32} (hd : decode cc pc = .ok (.ldc ix, 2)) (hw : Cond.constant own ix v ∈ Ts) (kk : gx_G Γ k n (pc + 2) V (.int v :: st) ws) : gx_G Γ k n pc V st ws := fun H locs ls hP hD hS hl => lv_ldc C.1 C.2.1 C.2.2.2.1 (C.2.2.2.2.1 _ hw) hd (kk H locs ls hP hD hS hl)
theorem gx_ldc2 (C : gx_ok Γ cc own Ts d) {ix : Nat} {v : Int64} (hd : decode cc pc = .ok (.ldc2_w ix, 3)) (hw : Cond.constantLong own ix v ∈ Ts) (kk : gx_G Γ k n (pc + 3) V (.long v :: st) ws) : gx_G Γ k n pc V st ws := fun H locs ls hP hD hS hl => lv_ldc2 C.1 C.2.1 C.2.2.2.1 (C.2.2.2.2.1 _ hw) hd (kk H locs ls hP hD hS hl)
theorem gx_iload_0 (C : gx_ok Γ cc own Ts d) {x : Int32} (hd : decode cc pc = .ok (.iload_n 0, 1)) (hv : V[0]? = some (.int x)) (kk : gx_G Γ k n (pc + 1) V (.int x :: st) ws) : gx_G Γ k n pc V st ws := fun H locs ls hP hD hS hl => lv_iload_n C.1 C.2.1 hd rfl (gx_L_at hl hv (fun q => by cases q)) (kk H locs ls hP hD hS hl)
theorem gx_iload_1 (C : gx_ok Γ cc own Ts d) {x : Int32} (hd : decode cc pc = .ok (.iload_n 1, 1)) (hv : V[1]? = some (.int x)) (kk : gx_G Γ k n (pc + 1) V (.int x :: st) ws) : gx_G Γ k n pc V st ws := fun H locs ls hP hD hS hl => lv_iload_n C.1 C.2.1 hd rfl (gx_L_at hl hv (fun q => by cases q)) (kk H locs ls hP hD hS hl)
theorem gx_iload_2 (C : gx_ok Γ cc own Ts d) {x : Int32} (hd : decode cc pc = .ok (.iload_n 2, 1)) (hv : V[2]? = some (.int x)) (kk : gx_G Γ k n (pc + 1) V (.int x :: st) ws) : gx_G Γ k n pc V st ws := fun H locs ls hP hD hS hl => lv_iload_n C.1 C.2.1 hd rfl (gx_L_at hl hv (fun q => by cases q)) (kk H locs ls hP hD hS hl)
theorem gx_iload_3 (C : gx_ok Γ cc own Ts d) {x : Int32} (hd : decode cc pc = .ok (.iload_n 3, 1)) (hv : V[3]? = some (.int x)) (kk : gx_G Γ k n (pc + 1) V (.int x :: st) ws) : gx_G Γ k n pc V st ws := fun H locs ls hP hD hS hl => lv_iload_n C.1 C.2.1 hd rfl (gx_L_at hl hv (fun q => by cases q)) (kk H locs ls hP hD hS hl)
theorem gx_iload (C : gx_ok Γ cc own Ts d) {i : Nat} {x : Int32} (hd : decode cc pc = .ok (.iload i, 2)) (hv : V[i]? = some (.int x)) (kk : gx_G Γ k n (pc + 2) V (.int x :: st) ws) : gx_G Γ k n pc V st ws := fun H locs ls hP hD hS hl => lv_iload C.1 C.2.1 hd (gx_L_at hl hv (fun q => by cases q)) (kk H locs ls hP hD hS hl)
theorem gx_lload_0 (C : gx_ok Γ cc own Ts d) {x : Int64} (hd : decode cc pc = .ok (.lload_n 0, 1)) (hv : V[0]? = some (.long x)) (kk : gx_G Γ k n (pc + 1) V (.long x :: st) ws) : gx_G Γ k n pc V st ws := fun H locs ls hP hD hS hl => lv_lload_n C.1 C.2.1 hd rfl (gx_L_at hl hv (fun q => by cases q)) (kk H locs ls hP hD hS hl)
theorem gx_lload_1 (C : gx_ok Γ cc own Ts d) {x : Int64} (hd : decode cc pc = .ok (.lload_n 1, 1)) (hv : V[1]? = some (.long x)) (kk : gx_G Γ k n (pc + 1) V (.long x :: st) ws) : gx_G Γ k n pc V st ws := fun H locs ls hP hD hS hl => lv_lload_n C.1 C.2.1 hd rfl (gx_L_at hl hv (fun q => by cases q)) (kk H locs ls hP hD hS hl)
theorem gx_lload_2 (C : gx_ok Γ cc own Ts d) {x : Int64} (hd : decode cc pc = .ok (.lload_n 2, 1)) (hv : V[2]? = some (.long x)) (kk : gx_G Γ k n (pc + 1) V (.long x :: st) ws) : gx_G Γ k n pc V st ws := fun H locs ls hP hD hS hl => lv_lload_n C.1 C.2.1 hd rfl (gx_L_at hl hv (fun q => by cases q)) (kk H locs ls hP hD hS hl)
theorem gx_lload_3 (C : gx_ok Γ cc own Ts d) {x : Int64} (hd : decode cc pc = .ok (.lload_n 3, 1)) (hv : V[3]? = some (.long x)) (kk : gx_G Γ k n (pc + 1) V (.long x :: st) ws) : gx_G Γ k n pc V st ws := fun H locs ls hP hD hS hl => lv_lload_n C.1 C.2.1 hd rfl (gx_L_at hl hv (fun q => by cases q)) (kk H locs ls hP hD hS hl)
theorem gx_lload (C : gx_ok Γ cc own Ts d) {i : Nat} {x : Int64} (hd : decode cc pc = .ok (.lload i, 2)) (hv : V[i]? = some (.long x)) (kk : gx_G Γ k n (pc + 2) V (.long x :: st) ws) : gx_G Γ k n pc V st ws := fun H locs ls hP hD hS hl => lv_lload C.1 C.2.1 hd (gx_L_at hl hv (fun q => by cases q)) (kk H locs ls hP hD hS hl)
theorem gx_aload_0 (C : gx_ok Γ cc own Ts d) {x : Nat} (hd : decode cc pc = .ok (.aload_n 0, 1)) (hv : V[0]? = some (.ref x)) (kk : gx_G Γ k n (pc + 1) V (.ref x :: st) ws) : gx_G Γ k n pc V st ws := fun H locs ls hP hD hS hl => lv_aload_n C.1 C.2.1 hd rfl (gx_L_at hl hv (fun q => by cases q)) (kk H locs ls hP hD hS hl)
theorem gx_aload_1 (C : gx_ok Γ cc own Ts d) {x : Nat} (hd : decode cc pc = .ok (.aload_n 1, 1)) (hv : V[1]? = some (.ref x)) (kk : gx_G Γ k n (pc + 1) V (.ref x :: st) ws) : gx_G Γ k n pc V st ws := fun H locs ls hP hD hS hl => lv_aload_n C.1 C.2.1 hd rfl (gx_L_at hl hv (fun q => by cases q)) (kk H locs ls hP hD hS hl)
theorem gx_aload_2 (C : gx_ok Γ cc own Ts d) {x : Nat} (hd : decode cc pc = .ok (.aload_n 2, 1)) (hv : V[2]? = some (.ref x)) (kk : gx_G Γ k n (pc + 1) V (.ref x :: st) ws) : gx_G Γ k n pc V st ws := fun H locs ls hP hD hS hl => lv_aload_n C.1 C.2.1 hd rfl (gx_L_at hl hv (fun q => by cases q)) (kk H locs ls hP hD hS hl)
theorem gx_aload_3 (C : gx_ok Γ cc own Ts d) {x : Nat} (hd : decode cc pc = .ok (.aload_n 3, 1)) (hv : V[3]? = some (.ref x)) (kk : gx_G Γ k n (pc + 1) V (.ref x :: st) ws) : gx_G Γ k n pc V st ws := fun H locs ls hP hD hS hl => lv_aload_n C.1 C.2.1 hd rfl (gx_L_at hl hv (fun q => by cases q)) (kk H locs ls hP hD hS hl)
theorem gx_aload (C : gx_ok Γ cc own Ts d) {i : Nat} {x : Nat} (hd : decode cc pc = .ok (.aload i, 2)) (hv : V[i]? = some (.ref x)) (kk : gx_G Γ k n (pc + 2) V (.ref x :: st) ws) : gx_G Γ k n pc V st ws := fun H locs ls hP hD hS hl => lv_aload C.1 C.2.1 hd (gx_L_at hl hv (fun q => by cases q)) (kk H locs ls hP hD hS hl)
theorem gx_istore_0 (C : gx_ok Γ cc own Ts d) {x : Int32} (hd : decode cc pc = .ok (.istore_n 0, 1)) (hn : 0 < gx_nL Γ) (hnl : gx_nl V 0) (kk : gx_G Γ k n (pc + 1) (V.set 0 (.int x)) st ws) : gx_G Γ k n pc V (.int x :: st) ws := by
  intro H locs ls hP hD hS hl
  obtain ⟨l0, h1, h2⟩ := hl
  exact lv_istore_n (i := 0) C.1 C.2.1 hd rfl h1 hn rfl (fun ls' h => kk H locs ls' hP hD hS (gx_L_set1 (ls := ls) h2 hnl h))
theorem gx_istore_1 (C : gx_ok Γ cc own Ts d) {x : Int32} (hd : decode cc pc = .ok (.istore_n 1, 1)) (hn : 1 < gx_nL Γ) (hnl : gx_nl V 1) (kk : gx_G Γ k n (pc + 1) (V.set 1 (.int x)) st ws) : gx_G Γ k n pc V (.int x :: st) ws := by
  intro H locs ls hP hD hS hl
  obtain ⟨l0, h1, h2⟩ := hl
  exact lv_istore_n (i := 1) C.1 C.2.1 hd rfl h1 hn rfl (fun ls' h => kk H locs ls' hP hD hS (gx_L_set1 (ls := ls) h2 hnl h))
theorem gx_istore_2 (C : gx_ok Γ cc own Ts d) {x : Int32} (hd : decode cc pc = .ok (.istore_n 2, 1)) (hn : 2 < gx_nL Γ) (hnl : gx_nl V 2) (kk : gx_G Γ k n (pc + 1) (V.set 2 (.int x)) st ws) : gx_G Γ k n pc V (.int x :: st) ws := by
  intro H locs ls hP hD hS hl
  obtain ⟨l0, h1, h2⟩ := hl
  exact lv_istore_n (i := 2) C.1 C.2.1 hd rfl h1 hn rfl (fun ls' h => kk H locs ls' hP hD hS (gx_L_set1 (ls := ls) h2 hnl h))
theorem gx_istore_3 (C : gx_ok Γ cc own Ts d) {x : Int32} (hd : decode cc pc = .ok (.istore_n 3, 1)) (hn : 3 < gx_nL Γ) (hnl : gx_nl V 3) (kk : gx_G Γ k n (pc + 1) (V.set 3 (.int x)) st ws) : gx_G Γ k n pc V (.int x :: st) ws := by
  intro H locs ls hP hD hS hl
  obtain ⟨l0, h1, h2⟩ := hl
  exact lv_istore_n (i := 3) C.1 C.2.1 hd rfl h1 hn rfl (fun ls' h => kk H locs ls' hP hD hS (gx_L_set1 (ls := ls) h2 hnl h))
theorem gx_istore (C : gx_ok Γ cc own Ts d) {i : Nat} {x : Int32} (hd : decode cc pc = .ok (.istore i, 2)) (hn : i < gx_nL Γ) (hnl : gx_nl V i) (kk : gx_G Γ k n (pc + 2) (V.set i (.int x)) st ws) : gx_G Γ k n pc V (.int x :: st) ws := by
  intro H locs ls hP hD hS hl
  obtain ⟨l0, h1, h2⟩ := hl
  exact lv_istore C.1 C.2.1 hd h1 hn rfl (fun ls' h => kk H locs ls' hP hD hS (gx_L_set1 (ls := ls) h2 hnl h))
theorem gx_astore_0 (C : gx_ok Γ cc own Ts d) {x : Nat} (hd : decode cc pc = .ok (.astore_n 0, 1)) (hn : 0 < gx_nL Γ) (hnl : gx_nl V 0) (kk : gx_G Γ k n (pc + 1) (V.set 0 (.ref x)) st ws) : gx_G Γ k n pc V (.ref x :: st) ws := by
  intro H locs ls hP hD hS hl
  obtain ⟨l0, h1, h2⟩ := hl
  exact lv_astore_n (i := 0) C.1 C.2.1 hd rfl h1 hn rfl (fun ls' h => kk H locs ls' hP hD hS (gx_L_set1 (ls := ls) h2 hnl h))
theorem gx_astore_1 (C : gx_ok Γ cc own Ts d) {x : Nat} (hd : decode cc pc = .ok (.astore_n 1, 1)) (hn : 1 < gx_nL Γ) (hnl : gx_nl V 1) (kk : gx_G Γ k n (pc + 1) (V.set 1 (.ref x)) st ws) : gx_G Γ k n pc V (.ref x :: st) ws := by
  intro H locs ls hP hD hS hl
  obtain ⟨l0, h1, h2⟩ := hl
  exact lv_astore_n (i := 1) C.1 C.2.1 hd rfl h1 hn rfl (fun ls' h => kk H locs ls' hP hD hS (gx_L_set1 (ls := ls) h2 hnl h))
theorem gx_astore_2 (C : gx_ok Γ cc own Ts d) {x : Nat} (hd : decode cc pc = .ok (.astore_n 2, 1)) (hn : 2 < gx_nL Γ) (hnl : gx_nl V 2) (kk : gx_G Γ k n (pc + 1) (V.set 2 (.ref x)) st ws) : gx_G Γ k n pc V (.ref x :: st) ws := by
  intro H locs ls hP hD hS hl
  obtain ⟨l0, h1, h2⟩ := hl
  exact lv_astore_n (i := 2) C.1 C.2.1 hd rfl h1 hn rfl (fun ls' h => kk H locs ls' hP hD hS (gx_L_set1 (ls := ls) h2 hnl h))
theorem gx_astore_3 (C : gx_ok Γ cc own Ts d) {x : Nat} (hd : decode cc pc = .ok (.astore_n 3, 1)) (hn : 3 < gx_nL Γ) (hnl : gx_nl V 3) (kk : gx_G Γ k n (pc + 1) (V.set 3 (.ref x)) st ws) : gx_G Γ k n pc V (.ref x :: st) ws := by
  intro H locs ls hP hD hS hl
  obtain ⟨l0, h1, h2⟩ := hl
  exact lv_astore_n (i := 3) C.1 C.2.1 hd rfl h1 hn rfl (fun ls' h => kk H locs ls' hP hD hS (gx_L_set1 (ls := ls) h2 hnl h))
theorem gx_astore (C : gx_ok Γ cc own Ts d) {i : Nat} {x : Nat} (hd : decode cc pc = .ok (.astore i, 2)) (hn : i < gx_nL Γ) (hnl : gx_nl V i) (kk : gx_G Γ k n (pc + 2) (V.set i (.ref x)) st ws) : gx_G Γ k n pc V (.ref x :: st) ws := by
  intro H locs ls hP hD hS hl
  obtain ⟨l0, h1, h2⟩ := hl
  exact lv_astore C.1 C.2.1 hd h1 hn rfl (fun ls' h => kk H locs ls' hP hD hS (gx_L_set1 (ls := ls) h2 hnl h))
theorem gx_lstore_0 (C : gx_ok Γ cc own Ts d) {x : Int64} (hd : decode cc pc = .ok (.lstore_n 0, 1)) (hn : 0 + 1 < gx_nL Γ) (hnl : gx_nl V 0) (kk : gx_G Γ k n (pc + 1) ((V.set 0 (.long x)).set (0 + 1) .null) st ws) : gx_G Γ k n pc V (.long x :: st) ws := by
  intro H locs ls hP hD hS hl
  obtain ⟨l0, h1, h2⟩ := hl
  exact lv_lstore_n (i := 0) C.1 C.2.1 hd rfl h1 hn rfl (fun ls' h => kk H locs ls' hP hD hS (gx_L_set2 (ls := ls) h2 hnl h))
theorem gx_lstore_1 (C : gx_ok Γ cc own Ts d) {x : Int64} (hd : decode cc pc = .ok (.lstore_n 1, 1)) (hn : 1 + 1 < gx_nL Γ) (hnl : gx_nl V 1) (kk : gx_G Γ k n (pc + 1) ((V.set 1 (.long x)).set (1 + 1) .null) st ws) : gx_G Γ k n pc V (.long x :: st) ws := by
  intro H locs ls hP hD hS hl
  obtain ⟨l0, h1, h2⟩ := hl
  exact lv_lstore_n (i := 1) C.1 C.2.1 hd rfl h1 hn rfl (fun ls' h => kk H locs ls' hP hD hS (gx_L_set2 (ls := ls) h2 hnl h))
theorem gx_lstore_2 (C : gx_ok Γ cc own Ts d) {x : Int64} (hd : decode cc pc = .ok (.lstore_n 2, 1)) (hn : 2 + 1 < gx_nL Γ) (hnl : gx_nl V 2) (kk : gx_G Γ k n (pc + 1) ((V.set 2 (.long x)).set (2 + 1) .null) st ws) : gx_G Γ k n pc V (.long x :: st) ws := by
  intro H locs ls hP hD hS hl
  obtain ⟨l0, h1, h2⟩ := hl
  exact lv_lstore_n (i := 2) C.1 C.2.1 hd rfl h1 hn rfl (fun ls' h => kk H locs ls' hP hD hS (gx_L_set2 (ls := ls) h2 hnl h))
theorem gx_lstore_3 (C : gx_ok Γ cc own Ts d) {x : Int64} (hd : decode cc pc = .ok (.lstore_n 3, 1)) (hn : 3 + 1 < gx_nL Γ) (hnl : gx_nl V 3) (kk : gx_G Γ k n (pc + 1) ((V.set 3 (.long x)).set (3 + 1) .null) st ws) : gx_G Γ k n pc V (.long x :: st) ws := by
  intro H locs ls hP hD hS hl
  obtain ⟨l0, h1, h2⟩ := hl
  exact lv_lstore_n (i := 3) C.1 C.2.1 hd rfl h1 hn rfl (fun ls' h => kk H locs ls' hP hD hS (gx_L_set2 (ls := ls) h2 hnl h))
theorem gx_lstore (C : gx_ok Γ cc own Ts d) {i : Nat} {x : Int64} (hd : decode cc pc = .ok (.lstore i, 2)) (hn : i + 1 < gx_nL Γ) (hnl : gx_nl V i) (kk : gx_G Γ k n (pc + 2) ((V.set i (.long x)).set (i + 1) .null) st ws) : gx_G Γ k n pc V (.long x :: st) ws := by
  intro H locs ls hP hD hS hl
  obtain ⟨l0, h1, h2⟩ := hl
  exact lv_lstore C.1 C.2.1 hd h1 hn rfl (fun ls' h => kk H locs ls' hP hD hS (gx_L_set2 (ls := ls) h2 hnl h))
theorem gx_iinc (C : gx_ok Γ cc own Ts d) {i : Nat} {z : Int} {x v : Int32} (hd : decode cc pc = .ok (.iinc i z, 3)) (hv : V[i]? = some (.int x)) (he : x + Int32.ofInt z = v) (hn : i < gx_nL Γ) (hnl : gx_nl V i) (kk : gx_G Γ k n (pc + 3) (V.set i (.int v)) st ws) : gx_G Γ k n pc V st ws := by
  intro H locs ls hP hD hS hl
  obtain ⟨l0, h1, h2⟩ := hl
  obtain ⟨j, hj⟩ := List.getElem?_of_mem (h2 i _ hv (fun q => by cases q))
  exact lv_iinc C.1 C.2.1 hd h1 hj he hn rfl (fun ls' h => kk H locs ls' hP hD hS (gx_L_set1 (ls := ls) h2 hnl h))
theorem gx_iinc1 (C : gx_ok Γ cc own Ts d) {i : Nat} {x : Int32} (hd : decode cc pc = .ok (.iinc i 1, 3)) (hv : V[i]? = some (.int x)) (hn : i < gx_nL Γ) (hnl : gx_nl V i) (kk : gx_G Γ k n (pc + 3) (V.set i (.int (x + 1))) st ws) : gx_G Γ k n pc V st ws := gx_iinc C hd hv (by show x + Int32.ofInt 1 = x + 1; rfl) hn hnl kk
theorem gx_iadd (C : gx_ok Γ cc own Ts d) {x y : Int32} (hd : decode cc pc = .ok (.iadd, 1)) (kk : gx_G Γ k n (pc + 1) V (.int (x + y) :: st) ws) : gx_G Γ k n pc V (.int y :: .int x :: st) ws := fun H locs ls hP hD hS hl => lv_iadd C.1 C.2.1 hd (kk H locs ls hP hD hS hl)
theorem gx_isub (C : gx_ok Γ cc own Ts d) {x y : Int32} (hd : decode cc pc = .ok (.isub, 1)) (kk : gx_G Γ k n (pc + 1) V (.int (x - y) :: st) ws) : gx_G Γ k n pc V (.int y :: .int x :: st) ws := fun H locs ls hP hD hS hl => lv_isub C.1 C.2.1 hd (kk H locs ls hP hD hS hl)
theorem gx_imul (C : gx_ok Γ cc own Ts d) {x y : Int32} (hd : decode cc pc = .ok (.imul, 1)) (kk : gx_G Γ k n (pc + 1) V (.int (x * y) :: st) ws) : gx_G Γ k n pc V (.int y :: .int x :: st) ws := fun H locs ls hP hD hS hl => lv_imul C.1 C.2.1 hd (kk H locs ls hP hD hS hl)
theorem gx_iand (C : gx_ok Γ cc own Ts d) {x y : Int32} (hd : decode cc pc = .ok (.iand, 1)) (kk : gx_G Γ k n (pc + 1) V (.int (x &&& y) :: st) ws) : gx_G Γ k n pc V (.int y :: .int x :: st) ws := fun H locs ls hP hD hS hl => lv_iand C.1 C.2.1 hd (kk H locs ls hP hD hS hl)
theorem gx_ior (C : gx_ok Γ cc own Ts d) {x y : Int32} (hd : decode cc pc = .ok (.ior, 1)) (kk : gx_G Γ k n (pc + 1) V (.int (x ||| y) :: st) ws) : gx_G Γ k n pc V (.int y :: .int x :: st) ws := fun H locs ls hP hD hS hl => lv_ior C.1 C.2.1 hd (kk H locs ls hP hD hS hl)
theorem gx_ixor (C : gx_ok Γ cc own Ts d) {x y : Int32} (hd : decode cc pc = .ok (.ixor, 1)) (kk : gx_G Γ k n (pc + 1) V (.int (x ^^^ y) :: st) ws) : gx_G Γ k n pc V (.int y :: .int x :: st) ws := fun H locs ls hP hD hS hl => lv_ixor C.1 C.2.1 hd (kk H locs ls hP hD hS hl)
theorem gx_ishl (C : gx_ok Γ cc own Ts d) {x y : Int32} (hd : decode cc pc = .ok (.ishl, 1)) (kk : gx_G Γ k n (pc + 1) V (.int (x <<< (y &&& 31)) :: st) ws) : gx_G Γ k n pc V (.int y :: .int x :: st) ws := fun H locs ls hP hD hS hl => lv_ishl C.1 C.2.1 hd (kk H locs ls hP hD hS hl)
theorem gx_ishr (C : gx_ok Γ cc own Ts d) {x y : Int32} (hd : decode cc pc = .ok (.ishr, 1)) (kk : gx_G Γ k n (pc + 1) V (.int (x >>> (y &&& 31)) :: st) ws) : gx_G Γ k n pc V (.int y :: .int x :: st) ws := fun H locs ls hP hD hS hl => lv_ishr C.1 C.2.1 hd (kk H locs ls hP hD hS hl)
theorem gx_irem (C : gx_ok Γ cc own Ts d) {x y : Int32} (hd : decode cc pc = .ok (.irem, 1)) (hne : ¬ y = 0) (kk : gx_G Γ k n (pc + 1) V (.int (x - x / y * y) :: st) ws) : gx_G Γ k n pc V (.int y :: .int x :: st) ws := fun H locs ls hP hD hS hl => lv_irem C.1 C.2.1 hd hne (kk H locs ls hP hD hS hl)
theorem gx_idiv (C : gx_ok Γ cc own Ts d) {x y : Int32} (hd : decode cc pc = .ok (.idiv, 1)) (hne : ¬ y = 0) (kk : gx_G Γ k n (pc + 1) V (.int (x / y) :: st) ws) : gx_G Γ k n pc V (.int y :: .int x :: st) ws := fun H locs ls hP hD hS hl => lv_idiv C.1 C.2.1 hd hne (kk H locs ls hP hD hS hl)
theorem gx_ineg (C : gx_ok Γ cc own Ts d) {x : Int32} (hd : decode cc pc = .ok (.ineg, 1)) (kk : gx_G Γ k n (pc + 1) V (.int (-x) :: st) ws) : gx_G Γ k n pc V (.int x :: st) ws := fun H locs ls hP hD hS hl => lv_ineg C.1 C.2.1 hd (kk H locs ls hP hD hS hl)
theorem gx_ladd (C : gx_ok Γ cc own Ts d) {x y : Int64} (hd : decode cc pc = .ok (.ladd, 1)) (kk : gx_G Γ k n (pc + 1) V (.long (x + y) :: st) ws) : gx_G Γ k n pc V (.long y :: .long x :: st) ws := fun H locs ls hP hD hS hl => lv_ladd C.1 C.2.1 hd (kk H locs ls hP hD hS hl)
theorem gx_lsub (C : gx_ok Γ cc own Ts d) {x y : Int64} (hd : decode cc pc = .ok (.lsub, 1)) (kk : gx_G Γ k n (pc + 1) V (.long (x - y) :: st) ws) : gx_G Γ k n pc V (.long y :: .long x :: st) ws := fun H locs ls hP hD hS hl => lv_lsub C.1 C.2.1 hd (kk H locs ls hP hD hS hl)
theorem gx_lmul (C : gx_ok Γ cc own Ts d) {x y : Int64} (hd : decode cc pc = .ok (.lmul, 1)) (kk : gx_G Γ k n (pc + 1) V (.long (x * y) :: st) ws) : gx_G Γ k n pc V (.long y :: .long x :: st) ws := fun H locs ls hP hD hS hl => lv_lmul C.1 C.2.1 hd (kk H locs ls hP hD hS hl)
theorem gx_land (C : gx_ok Γ cc own Ts d) {x y : Int64} (hd : decode cc pc = .ok (.land, 1)) (kk : gx_G Γ k n (pc + 1) V (.long (x &&& y) :: st) ws) : gx_G Γ k n pc V (.long y :: .long x :: st) ws := fun H locs ls hP hD hS hl => lv_land C.1 C.2.1 hd (kk H locs ls hP hD hS hl)
theorem gx_lor (C : gx_ok Γ cc own Ts d) {x y : Int64} (hd : decode cc pc = .ok (.lor, 1)) (kk : gx_G Γ k n (pc + 1) V (.long (x ||| y) :: st) ws) : gx_G Γ k n pc V (.long y :: .long x :: st) ws := fun H locs ls hP hD hS hl => lv_lor C.1 C.2.1 hd (kk H locs ls hP hD hS hl)
theorem gx_i2l (C : gx_ok Γ cc own Ts d) {x : Int32} (hd : decode cc pc = .ok (.i2l, 1)) (kk : gx_G Γ k n (pc + 1) V (.long x.toInt64 :: st) ws) : gx_G Γ k n pc V (.int x :: st) ws := fun H locs ls hP hD hS hl => lv_i2l C.1 C.2.1 hd rfl (kk H locs ls hP hD hS hl)
theorem gx_l2i (C : gx_ok Γ cc own Ts d) {x : Int64} (hd : decode cc pc = .ok (.l2i, 1)) (kk : gx_G Γ k n (pc + 1) V (.int x.toInt32 :: st) ws) : gx_G Γ k n pc V (.long x :: st) ws := fun H locs ls hP hD hS hl => lv_l2i C.1 C.2.1 hd rfl (kk H locs ls hP hD hS hl)
theorem gx_i2b (C : gx_ok Γ cc own Ts d) {x : Int32} (hd : decode cc pc = .ok (.i2b, 1)) (kk : gx_G Γ k n (pc + 1) V (.int x.toInt8.toInt32 :: st) ws) : gx_G Γ k n pc V (.int x :: st) ws := fun H locs ls hP hD hS hl => lv_i2b C.1 C.2.1 hd rfl (kk H locs ls hP hD hS hl)
theorem gx_i2c (C : gx_ok Γ cc own Ts d) {x : Int32} (hd : decode cc pc = .ok (.i2c, 1)) (kk : gx_G Γ k n (pc + 1) V (.int (x.toUInt32 % 65536).toInt32 :: st) ws) : gx_G Γ k n pc V (.int x :: st) ws := fun H locs ls hP hD hS hl => lv_i2c C.1 C.2.1 hd rfl (kk H locs ls hP hD hS hl)
theorem gx_iushr (C : gx_ok Γ cc own Ts d) {x y : Int32} (hd : decode cc pc = .ok (.iushr, 1)) (kk : gx_G Γ k n (pc + 1) V (.int (x.toUInt32 >>> (y.toUInt32 &&& Int32.toUInt32 31)).toInt32 :: st) ws) : gx_G Γ k n pc V (.int y :: .int x :: st) ws := fun H locs ls hP hD hS hl => lv_iushr C.1 C.2.1 hd rfl (kk H locs ls hP hD hS hl)
theorem gx_ldcw (C : gx_ok Γ cc own Ts d) {ix : Nat} {v : Int32} (hd : decode cc pc = .ok (.ldc_w ix, 3)) (hw : Cond.constant own ix v ∈ Ts) (kk : gx_G Γ k n (pc + 3) V (.int v :: st) ws) : gx_G Γ k n pc V st ws := fun H locs ls hP hD hS hl => lv_ldcw C.1 C.2.1 C.2.2.2.1 (C.2.2.2.2.1 _ hw) hd (kk H locs ls hP hD hS hl)
theorem gx_lushr (C : gx_ok Γ cc own Ts d) {x : Int64} {y : Int32} (hd : decode cc pc = .ok (.lushr, 1)) (kk : gx_G Γ k n (pc + 1) V (.long (x.toUInt64 >>> (y.toInt64.toUInt64 &&& Int64.toUInt64 63)).toInt64 :: st) ws) : gx_G Γ k n pc V (.int y :: .long x :: st) ws := fun H locs ls hP hD hS hl => lv_lushr C.1 C.2.1 hd rfl (kk H locs ls hP hD hS hl)
theorem gx_lshl (C : gx_ok Γ cc own Ts d) {x : Int64} {y : Int32} (hd : decode cc pc = .ok (.lshl, 1)) (kk : gx_G Γ k n (pc + 1) V (.long (x <<< (y.toInt64 &&& 63)) :: st) ws) : gx_G Γ k n pc V (.int y :: .long x :: st) ws := fun H locs ls hP hD hS hl => lv_lshl C.1 C.2.1 hd rfl (kk H locs ls hP hD hS hl)
theorem gx_lshr (C : gx_ok Γ cc own Ts d) {x : Int64} {y : Int32} (hd : decode cc pc = .ok (.lshr, 1)) (kk : gx_G Γ k n (pc + 1) V (.long (x >>> (y.toInt64 &&& 63)) :: st) ws) : gx_G Γ k n pc V (.int y :: .long x :: st) ws := fun H locs ls hP hD hS hl => lv_lshr C.1 C.2.1 hd rfl (kk H locs ls hP hD hS hl)
theorem gx_lcmp (C : gx_ok Γ cc own Ts d) {x y : Int64} (hd : decode cc pc = .ok (.lcmp, 1)) (kk : gx_G Γ k n (pc + 1) V (.int (lg_cmp x y) :: st) ws) : gx_G Γ k n pc V (.long y :: .long x :: st) ws := fun H locs ls hP hD hS hl => W.lcmp C.1 C.2.1 hd (kk H locs ls hP hD hS hl)
theorem gx_dup (C : gx_ok Γ cc own Ts d) {va : Value} (hd : decode cc pc = .ok (.dup, 1)) (hc : va.category = 1) (kk : gx_G Γ k n (pc + 1) V (va :: va :: st) ws) : gx_G Γ k n pc V (va :: st) ws := fun H locs ls hP hD hS hl => lv_dup C.1 C.2.1 hd hc (kk H locs ls hP hD hS hl)
theorem gx_pop (C : gx_ok Γ cc own Ts d) {va : Value} (hd : decode cc pc = .ok (.pop, 1)) (hc : va.category = 1) (kk : gx_G Γ k n (pc + 1) V st ws) : gx_G Γ k n pc V (va :: st) ws := fun H locs ls hP hD hS hl => lv_pop C.1 C.2.1 hd hc (kk H locs ls hP hD hS hl)
theorem gx_dup2 (C : gx_ok Γ cc own Ts d) {va vb : Value} (hd : decode cc pc = .ok (.dup2, 1)) (hc : va.category = 1) (hc2 : vb.category = 1) (kk : gx_G Γ k n (pc + 1) V (va :: vb :: va :: vb :: st) ws) : gx_G Γ k n pc V (va :: vb :: st) ws := fun H locs ls hP hD hS hl => lv_dup2_11 C.1 C.2.1 hd hc hc2 (kk H locs ls hP hD hS hl)
theorem gx_pop2 (C : gx_ok Γ cc own Ts d) {va : Value} (hd : decode cc pc = .ok (.pop2, 1)) (hc : va.category = 2) (kk : gx_G Γ k n (pc + 1) V st ws) : gx_G Γ k n pc V (va :: st) ws := fun H locs ls hP hD hS hl => lv_pop2_2 C.1 C.2.1 hd hc (kk H locs ls hP hD hS hl)
theorem gx_if_eq (C : gx_ok Γ cc own Ts d) {x : Int32} {off : Int} {tgt : Nat} (hd : decode cc pc = .ok (.ifCond .eq off, 3)) (ht : (pc : Int) + off = (tgt : Int)) (kt : x = 0 → gx_G Γ k n tgt V st ws) (kf : ¬ (x = 0) → gx_G Γ k n (pc + 3) V st ws) : gx_G Γ k n pc V (.int x :: st) ws := fun H locs ls hP hD hS hl => lv_if_eq C.1 C.2.1 hd ht (fun q => kt q H locs ls hP hD hS hl) (fun q => kf q H locs ls hP hD hS hl)
theorem gx_icmp_eq (C : gx_ok Γ cc own Ts d) {x y : Int32} {off : Int} {tgt : Nat} (hd : decode cc pc = .ok (.if_icmp .eq off, 3)) (ht : (pc : Int) + off = (tgt : Int)) (kt : x = y → gx_G Γ k n tgt V st ws) (kf : ¬ (x = y) → gx_G Γ k n (pc + 3) V st ws) : gx_G Γ k n pc V (.int y :: .int x :: st) ws := fun H locs ls hP hD hS hl => lv_icmp_eq C.1 C.2.1 hd ht (fun q => kt q H locs ls hP hD hS hl) (fun q => kf q H locs ls hP hD hS hl)
theorem gx_if_ne (C : gx_ok Γ cc own Ts d) {x : Int32} {off : Int} {tgt : Nat} (hd : decode cc pc = .ok (.ifCond .ne off, 3)) (ht : (pc : Int) + off = (tgt : Int)) (kt : ¬ x = 0 → gx_G Γ k n tgt V st ws) (kf : x = 0 → gx_G Γ k n (pc + 3) V st ws) : gx_G Γ k n pc V (.int x :: st) ws := fun H locs ls hP hD hS hl => lv_if_ne C.1 C.2.1 hd ht (fun q => kt q H locs ls hP hD hS hl) (fun q => kf q H locs ls hP hD hS hl)
theorem gx_icmp_ne (C : gx_ok Γ cc own Ts d) {x y : Int32} {off : Int} {tgt : Nat} (hd : decode cc pc = .ok (.if_icmp .ne off, 3)) (ht : (pc : Int) + off = (tgt : Int)) (kt : ¬ x = y → gx_G Γ k n tgt V st ws) (kf : x = y → gx_G Γ k n (pc + 3) V st ws) : gx_G Γ k n pc V (.int y :: .int x :: st) ws := fun H locs ls hP hD hS hl => lv_icmp_ne C.1 C.2.1 hd ht (fun q => kt q H locs ls hP hD hS hl) (fun q => kf q H locs ls hP hD hS hl)
theorem gx_if_lt (C : gx_ok Γ cc own Ts d) {x : Int32} {off : Int} {tgt : Nat} (hd : decode cc pc = .ok (.ifCond .lt off, 3)) (ht : (pc : Int) + off = (tgt : Int)) (kt : x < 0 → gx_G Γ k n tgt V st ws) (kf : ¬ (x < 0) → gx_G Γ k n (pc + 3) V st ws) : gx_G Γ k n pc V (.int x :: st) ws := fun H locs ls hP hD hS hl => lv_if_lt C.1 C.2.1 hd ht (fun q => kt q H locs ls hP hD hS hl) (fun q => kf q H locs ls hP hD hS hl)
theorem gx_icmp_lt (C : gx_ok Γ cc own Ts d) {x y : Int32} {off : Int} {tgt : Nat} (hd : decode cc pc = .ok (.if_icmp .lt off, 3)) (ht : (pc : Int) + off = (tgt : Int)) (kt : x < y → gx_G Γ k n tgt V st ws) (kf : ¬ (x < y) → gx_G Γ k n (pc + 3) V st ws) : gx_G Γ k n pc V (.int y :: .int x :: st) ws := fun H locs ls hP hD hS hl => lv_icmp_lt C.1 C.2.1 hd ht (fun q => kt q H locs ls hP hD hS hl) (fun q => kf q H locs ls hP hD hS hl)
theorem gx_if_ge (C : gx_ok Γ cc own Ts d) {x : Int32} {off : Int} {tgt : Nat} (hd : decode cc pc = .ok (.ifCond .ge off, 3)) (ht : (pc : Int) + off = (tgt : Int)) (kt : 0 ≤ x → gx_G Γ k n tgt V st ws) (kf : ¬ (0 ≤ x) → gx_G Γ k n (pc + 3) V st ws) : gx_G Γ k n pc V (.int x :: st) ws := fun H locs ls hP hD hS hl => lv_if_ge C.1 C.2.1 hd ht (fun q => kt q H locs ls hP hD hS hl) (fun q => kf q H locs ls hP hD hS hl)
theorem gx_icmp_ge (C : gx_ok Γ cc own Ts d) {x y : Int32} {off : Int} {tgt : Nat} (hd : decode cc pc = .ok (.if_icmp .ge off, 3)) (ht : (pc : Int) + off = (tgt : Int)) (kt : y ≤ x → gx_G Γ k n tgt V st ws) (kf : ¬ (y ≤ x) → gx_G Γ k n (pc + 3) V st ws) : gx_G Γ k n pc V (.int y :: .int x :: st) ws := fun H locs ls hP hD hS hl => lv_icmp_ge C.1 C.2.1 hd ht (fun q => kt q H locs ls hP hD hS hl) (fun q => kf q H locs ls hP hD hS hl)
theorem gx_if_gt (C : gx_ok Γ cc own Ts d) {x : Int32} {off : Int} {tgt : Nat} (hd : decode cc pc = .ok (.ifCond .gt off, 3)) (ht : (pc : Int) + off = (tgt : Int)) (kt : 0 < x → gx_G Γ k n tgt V st ws) (kf : ¬ (0 < x) → gx_G Γ k n (pc + 3) V st ws) : gx_G Γ k n pc V (.int x :: st) ws := fun H locs ls hP hD hS hl => lv_if_gt C.1 C.2.1 hd ht (fun q => kt q H locs ls hP hD hS hl) (fun q => kf q H locs ls hP hD hS hl)
theorem gx_icmp_gt (C : gx_ok Γ cc own Ts d) {x y : Int32} {off : Int} {tgt : Nat} (hd : decode cc pc = .ok (.if_icmp .gt off, 3)) (ht : (pc : Int) + off = (tgt : Int)) (kt : y < x → gx_G Γ k n tgt V st ws) (kf : ¬ (y < x) → gx_G Γ k n (pc + 3) V st ws) : gx_G Γ k n pc V (.int y :: .int x :: st) ws := fun H locs ls hP hD hS hl => lv_icmp_gt C.1 C.2.1 hd ht (fun q => kt q H locs ls hP hD hS hl) (fun q => kf q H locs ls hP hD hS hl)
theorem gx_if_le (C : gx_ok Γ cc own Ts d) {x : Int32} {off : Int} {tgt : Nat} (hd : decode cc pc = .ok (.ifCond .le off, 3)) (ht : (pc : Int) + off = (tgt : Int)) (kt : x ≤ 0 → gx_G Γ k n tgt V st ws) (kf : ¬ (x ≤ 0) → gx_G Γ k n (pc + 3) V st ws) : gx_G Γ k n pc V (.int x :: st) ws := fun H locs ls hP hD hS hl => lv_if_le C.1 C.2.1 hd ht (fun q => kt q H locs ls hP hD hS hl) (fun q => kf q H locs ls hP hD hS hl)
theorem gx_icmp_le (C : gx_ok Γ cc own Ts d) {x y : Int32} {off : Int} {tgt : Nat} (hd : decode cc pc = .ok (.if_icmp .le off, 3)) (ht : (pc : Int) + off = (tgt : Int)) (kt : x ≤ y → gx_G Γ k n tgt V st ws) (kf : ¬ (x ≤ y) → gx_G Γ k n (pc + 3) V st ws) : gx_G Γ k n pc V (.int y :: .int x :: st) ws := fun H locs ls hP hD hS hl => lv_icmp_le C.1 C.2.1 hd ht (fun q => kt q H locs ls hP hD hS hl) (fun q => kf q H locs ls hP hD hS hl)
theorem gx_goto (C : gx_ok Γ cc own Ts d) {off : Int} {tgt : Nat} (hd : decode cc pc = .ok (.goto off, 3)) (ht : (pc : Int) + off = (tgt : Int)) (kk : gx_G Γ k n tgt V st ws) : gx_G Γ k n pc V st ws := fun H locs ls hP hD hS hl => lv_goto C.1 C.2.1 hd ht (kk H locs ls hP hD hS hl)
theorem gx_tout (C : gx_ok Γ cc own Ts d) {dflt lo hi : Int} {offs : Array Int} {len : Nat} {x : Int32} {tgt : Nat} (hd : decode cc pc = .ok (.tableswitch dflt lo hi offs, len)) (h : x.toInt < lo ∨ hi < x.toInt) (ht : (pc : Int) + dflt = (tgt : Int)) (kk : gx_G Γ k n tgt V st ws) : gx_G Γ k n pc V (.int x :: st) ws := fun H locs ls hP hD hS hl => lv_tableOut C.1 C.2.1 hd h ht (kk H locs ls hP hD hS hl)
theorem gx_tin (C : gx_ok Γ cc own Ts d) {dflt lo hi : Int} {offs : Array Int} {len : Nat} {x : Int32} {off : Int} {tgt : Nat} (hd : decode cc pc = .ok (.tableswitch dflt lo hi offs, len)) (h1 : ¬ x.toInt < lo) (h2 : ¬ hi < x.toInt) (ho : offs[(x.toInt - lo).toNat]? = some off) (ht : (pc : Int) + off = (tgt : Int)) (kk : gx_G Γ k n tgt V st ws) : gx_G Γ k n pc V (.int x :: st) ws := fun H locs ls hP hD hS hl => lv_tableIn C.1 C.2.1 hd h1 h2 ho ht (kk H locs ls hP hD hS hl)
theorem gx_look (C : gx_ok Γ cc own Ts d) {dflt : Int} {ps : Array (Int × Int)} {len : Nat} {x : Int32} {off : Int} {tgt : Nat} (hd : decode cc pc = .ok (.lookupswitch dflt ps, len)) (hp : (ps.toList.zip (ps.toList.drop 1)).all (fun (a, next) => a.1 < next.1) = true) (ho : Op.lookupswitch.offset ps.toList dflt x.toInt = off) (ht : (pc : Int) + off = (tgt : Int)) (kk : gx_G Γ k n tgt V st ws) : gx_G Γ k n pc V (.int x :: st) ws := fun H locs ls hP hD hS hl => lv_lookup C.1 C.2.1 hd hp ho ht (kk H locs ls hP hD hS hl)
end GX
abbrev gx_S : Type := Nat → Nat → Int32
def gx_st (S : gx_S) (q j : Nat) (x : Int32) : gx_S := va_up S q (upd (S q) j x)
/-- a long in two places -/
def gx_mk (x y : Int32) : Int64 := Int64.ofBitVec ((x.toBitVec ++ y.toBitVec : BitVec (32 + 32)).cast rfl)
def gx_hi (v : Int64) : Int32 := Int32.ofBitVec (v.toBitVec.extractLsb' 32 32)
def gx_lo (v : Int64) : Int32 := Int32.ofBitVec (v.toBitVec.extractLsb' 0 32)
theorem gx_mk_hi (v : Int64) : gx_mk (gx_hi v) (gx_lo v) = v := by
  apply Int64.toBitVec_inj.mp
  unfold gx_mk gx_hi gx_lo
  apply BitVec.eq_of_getLsbD_eq
  intro i hi
  simp only [Int64.toBitVec_ofBitVec, Int32.toBitVec_ofBitVec, BitVec.getLsbD_cast, BitVec.getLsbD_append, BitVec.getLsbD_extractLsb']
  by_cases h : i < 32
  · simp [h]
  · have h2 : i - 32 < 32 := by omega
    have h3 : 32 + (i - 32) = i := by omega
    simp [h, h2, h3]
theorem gx_mk_up {f : Nat → Int32} {h0 : Nat} {v : Int64} : gx_mk (upd (upd f h0 (gx_hi v)) (h0 + 1) (gx_lo v) h0) (upd (upd f h0 (gx_hi v)) (h0 + 1) (gx_lo v) (h0 + 1)) = v := by
  simp [upd, gx_mk_hi]
def gx_stl (S : gx_S) (q h0 : Nat) (v : Int64) : gx_S := va_up S q (upd (upd (S q) h0 (gx_hi v)) (h0 + 1) (gx_lo v))
theorem gx_in_lt {i : Int32} {N : Nat} (h : vp_in i N) : i.toNatClampNeg < N := Nat.not_le.mp fun z => h (Or.inr z)
/-! static worlds: K cells at the addresses a, cell k holding cf k (S k) -/
def gx_w (K : Nat) (a : Nat → Nat) (cf : Nat → (Nat → Int32) → va_E) (S : Nat → Nat → Int32) : va_W := (List.range K).map (fun k => (a k, cf k (S k)))
theorem gx_w_get {K : Nat} {a : Nat → Nat} {cf : Nat → (Nat → Int32) → va_E} {S : Nat → Nat → Int32} {q : Nat} (h : q < K) : (gx_w K a cf S)[q]? = some (a q, cf q (S q)) := by
  simp [gx_w, h]
theorem gx_w_set {K : Nat} {a : Nat → Nat} {cf : Nat → (Nat → Int32) → va_E} {S : Nat → Nat → Int32} {q : Nat} (r : Nat → Int32) : (gx_w K a cf S).set q (a q, cf q r) = gx_w K a cf (va_up S q r) := by
  apply List.ext_getElem?
  intro i
  rw [List.getElem?_set]
  by_cases e : q = i
  · subst e
    by_cases h : q < K
    · simp [gx_w, h, va_up]
    · simp [gx_w, h]
  · rw [if_neg e]
    by_cases h : i < K
    · rw [gx_w_get h, gx_w_get h, va_up_ne _ _ (fun z => e z.symm)]
    · simp [gx_w, h]
/-- a field's words, by the class that uses it and its place there -/
def gx_fl (Ts : List Cond) (own : String) (ix : Nat) (C : String) (T : u_T) (N j : Nat) : Prop := (∀ w ∈ u_ws C T N, w ∈ Ts) ∧ j < N ∧ Cond.fieldLink own ix C (T j).2.1 (T j).2.2.1 ∈ Ts ∧ (T j).1 = C
/-- a class that the worlds hold: its fields' types, and their names are apart; it's the ci-th -/
def gx_cls (cl : List vw_C) (ci : Nat) (C : String) (T : u_T) (N : Nat) (ty : Nat → FieldType) : Prop := cl[ci]? = some (C, T, N) ∧ (∀ k, k < N → parseFieldDescriptor (T k).2.2.1 = some (ty k)) ∧ ∀ a, a < N → ∀ b, b < N → a ≠ b → (T a).2.1 ≠ (T b).2.1
def gx_arr (tys : List (ClassId × FieldType)) (cf : Nat → (Nat → Int32) → va_E) (q : Nat) (ty : FieldType) (N : Nat) : Prop := ∃ (t0 : Nat) (cA : ClassId), tys[t0]? = some (cA, ty) ∧ ∀ r, cf q r = .inl (cA, N, .inl r)
def gx_arrq (tys : List (ClassId × FieldType)) (cf : Nat → (Nat → Int32) → va_E) (q : Nat) (ty : FieldType) (N : Nat) (f : Nat → Option Nat) : Prop := ∃ (t0 : Nat) (cA : ClassId), tys[t0]? = some (cA, ty) ∧ ∀ r, cf q r = .inl (cA, N, .inr (.inr (.inr (.inr f))))
section GS
variable {Γ : gx_T} {cc : ByteArray} {own : String} {Ts : List Cond} {d k n pc : Nat} {V st : List Value} {K : Nat} {a : Nat → Nat} {cf : Nat → (Nat → Int32) → va_E} {S : Nat → Nat → Int32}
theorem gs_getf (C0 : gx_ok Γ cc own Ts d) {ix q ci N j : Nat} {C : String} {T : u_T} {ty : Nat → FieldType} {fs : List Value} {v : Value} (hf : gx_fl Ts own ix C T N j) (hcl : gx_cls (gx_cl Γ) ci C T N ty) (hk : q < K) (hc : cf q (S q) = .inr (ci, fs)) (hv : fs[j]? = some v) (hd : decode cc pc = .ok (.getfield ix, 3)) (kk : gx_G Γ k n (pc + 3) V (v :: st) (gx_w K a cf S)) : gx_G Γ k n pc V (.ref (a q) :: st) (gx_w K a cf S) := fun H locs ls hP hD hS hl =>
  va_get C0.1 C0.2.1 C0.2.2.2.2.1 hf.1 C0.2.2.2.1 C0.2.2.2.2.2.1 hP q (by rw [gx_w_get hk, hc]) hcl.1 j hf.2.1 (C0.2.2.2.2.1 _ hf.2.2.1) (by rw [hf.2.2.2]; exact fun _ h => h) hv hd (kk H locs ls hP hD hS hl)
theorem gs_putf (C0 : gx_ok Γ cc own Ts d) {ix q ci N j : Nat} {C : String} {T : u_T} {ty : Nat → FieldType} {fs : List Value} {v : Value} (r : Nat → Int32) (hf : gx_fl Ts own ix C T N j) (hcl : gx_cls (gx_cl Γ) ci C T N ty) (hk : q < K) (hc : cf q (S q) = .inr (ci, fs)) (hr : cf q r = .inr (ci, fs.set j v)) (hfin : (T j).2.2.2 = false) (hn : narrow (ty j) v = v) (hfit : fits (ty j) v = true) (hlen : j < fs.length) (hd : decode cc pc = .ok (.putfield ix, 3)) (kk : gx_G Γ k n (pc + 3) V st (gx_w K a cf (va_up S q r))) : gx_G Γ k n pc V (v :: .ref (a q) :: st) (gx_w K a cf S) := fun H locs ls hP hD hS hl =>
  va_put C0.1 C0.2.1 C0.2.2.2.2.1 hf.1 ty hcl.2.1 hcl.2.2 C0.2.2.2.1 C0.2.2.2.2.2.1 hP hD hS q (by rw [gx_w_get hk, hc]) hcl.1 j hf.2.1 (C0.2.2.2.2.1 _ hf.2.2.1) (by rw [hf.2.2.2]; exact fun _ h => h) hfin (hcl.2.1 j hf.2.1) hn hfit hlen hd (fun H1 locs1 hP hD hS => by
    rw [← hr, gx_w_set] at hP hD
    exact kk H1 locs1 ls hP hD hS hl)
theorem gs_aald (C0 : gx_ok Γ cc own Ts d) {q N : Nat} {ty : FieldType} {f : Nat → Option Nat} {i : Int32} {b : Nat} (ha : gx_arrq (gx_ty Γ) cf q ty N f) (hty : ty.isReference = true) (hk : q < K) (hin : vp_in i N) (hb : f i.toNatClampNeg = some b) (hd : decode cc pc = .ok (.aaload, 1)) (kk : gx_G Γ k n (pc + 1) V (.ref b :: st) (gx_w K a cf S)) : gx_G Γ k n pc V (.int i :: .ref (a q) :: st) (gx_w K a cf S) := fun H locs ls hP hD hS hl => by
  obtain ⟨t0, cA, ht, hc⟩ := ha
  have hlt : i.toNatClampNeg < N := Nat.not_le.mp fun z => hin (Or.inr z)
  have hcell := hP q (a q, .inl (cA, N, .inr (.inr (.inr (.inr f))))) (by rw [gx_w_get hk, hc])
  exact W.aald (v := .ref b) (ty := ty) C0.1 C0.2.1 hcell ((C0.2.2.2.2.2.1.2 t0 _ ht).1 N (fun j => va_rf (f j))) hty (fun z => by cases z) (by show ¬ (i < 0 ∨ (arrV _ _ _).slots.size ≤ _); rw [arrV_size]; exact hin) (by show (arrV _ _ _).slots[_]? = _; rw [arrV_read _ _ hlt, hb]; rfl) rfl rfl hd (kk H locs ls hP hD hS hl)
theorem gs_iald (C0 : gx_ok Γ cc own Ts d) {q N : Nat} {i : Int32} (ha : gx_arr (gx_ty Γ) cf q .int N) (hk : q < K) (hin : vp_in i N) (hd : decode cc pc = .ok (.iaload, 1)) (kk : gx_G Γ k n (pc + 1) V (.int (S q i.toNatClampNeg) :: st) (gx_w K a cf S)) : gx_G Γ k n pc V (.int i :: .ref (a q) :: st) (gx_w K a cf S) := fun H locs ls hP hD hS hl => by
  obtain ⟨t0, cA, ht, hc⟩ := ha
  exact va_iald C0.1 C0.2.1 C0.2.2.2.2.2.1 hP q t0 (by rw [gx_w_get hk, hc]) ht hin hd (kk H locs ls hP hD hS hl)
theorem gs_iast (C0 : gx_ok Γ cc own Ts d) {q N : Nat} {i x : Int32} (ha : gx_arr (gx_ty Γ) cf q .int N) (hk : q < K) (hin : vp_in i N) {S1 : gx_S} (hS1 : S1 = gx_st S q i.toNatClampNeg x) (hd : decode cc pc = .ok (.iastore, 1)) (kk : gx_G Γ k n (pc + 1) V st (gx_w K a cf S1)) : gx_G Γ k n pc V (.int x :: .int i :: .ref (a q) :: st) (gx_w K a cf S) := fun H locs ls hP hD hS hl => by
  obtain ⟨t0, cA, ht, hc⟩ := ha
  exact va_iast C0.1 C0.2.1 C0.2.2.2.2.2.1 hP hD hS q t0 (by rw [gx_w_get hk, hc]) ht hin hd (fun H1 locs1 hP hD hS => by
    rw [← hc, gx_w_set] at hP hD
    rw [hS1] at kk
    exact kk H1 locs1 ls hP hD hS hl)
theorem gs_zald (C0 : gx_ok Γ cc own Ts d) {q N : Nat} {i : Int32} (ha : gx_arr (gx_ty Γ) cf q .boolean N) (hk : q < K) (hin : vp_in i N) (hd : decode cc pc = .ok (.baload, 1)) (kk : gx_G Γ k n (pc + 1) V (.int (S q i.toNatClampNeg) :: st) (gx_w K a cf S)) : gx_G Γ k n pc V (.int i :: .ref (a q) :: st) (gx_w K a cf S) := fun H locs ls hP hD hS hl => by
  obtain ⟨t0, cA, ht, hc⟩ := ha
  exact va_zald C0.1 C0.2.1 C0.2.2.2.2.2.1 hP q t0 (by rw [gx_w_get hk, hc]) ht hin hd (kk H locs ls hP hD hS hl)
theorem gs_zast (C0 : gx_ok Γ cc own Ts d) {q N : Nat} {i x : Int32} (ha : gx_arr (gx_ty Γ) cf q .boolean N) (hk : q < K) (hin : vp_in i N) {S1 : gx_S} (hS1 : S1 = gx_st S q i.toNatClampNeg (vp_nar .boolean x)) (hd : decode cc pc = .ok (.bastore, 1)) (kk : gx_G Γ k n (pc + 1) V st (gx_w K a cf S1)) : gx_G Γ k n pc V (.int x :: .int i :: .ref (a q) :: st) (gx_w K a cf S) := fun H locs ls hP hD hS hl => by
  obtain ⟨t0, cA, ht, hc⟩ := ha
  exact va_zast C0.1 C0.2.1 C0.2.2.2.2.2.1 hP hD hS q t0 (by rw [gx_w_get hk, hc]) ht hin hd (fun H1 locs1 hP hD hS => by
    rw [← hc, gx_w_set] at hP hD
    rw [hS1] at kk
    exact kk H1 locs1 ls hP hD hS hl)
theorem gs_bald (C0 : gx_ok Γ cc own Ts d) {q N : Nat} {i : Int32} (ha : gx_arr (gx_ty Γ) cf q .byte N) (hk : q < K) (hin : vp_in i N) (hd : decode cc pc = .ok (.baload, 1)) (kk : gx_G Γ k n (pc + 1) V (.int (S q i.toNatClampNeg) :: st) (gx_w K a cf S)) : gx_G Γ k n pc V (.int i :: .ref (a q) :: st) (gx_w K a cf S) := fun H locs ls hP hD hS hl => by
  obtain ⟨t0, cA, ht, hc⟩ := ha
  exact va_bald C0.1 C0.2.1 C0.2.2.2.2.2.1 hP q t0 (by rw [gx_w_get hk, hc]) ht hin hd (kk H locs ls hP hD hS hl)
theorem gs_bast (C0 : gx_ok Γ cc own Ts d) {q N : Nat} {i x : Int32} (ha : gx_arr (gx_ty Γ) cf q .byte N) (hk : q < K) (hin : vp_in i N) {S1 : gx_S} (hS1 : S1 = gx_st S q i.toNatClampNeg (vp_nar .byte x)) (hd : decode cc pc = .ok (.bastore, 1)) (kk : gx_G Γ k n (pc + 1) V st (gx_w K a cf S1)) : gx_G Γ k n pc V (.int x :: .int i :: .ref (a q) :: st) (gx_w K a cf S) := fun H locs ls hP hD hS hl => by
  obtain ⟨t0, cA, ht, hc⟩ := ha
  exact va_bast C0.1 C0.2.1 C0.2.2.2.2.2.1 hP hD hS q t0 (by rw [gx_w_get hk, hc]) ht hin hd (fun H1 locs1 hP hD hS => by
    rw [← hc, gx_w_set] at hP hD
    rw [hS1] at kk
    exact kk H1 locs1 ls hP hD hS hl)
theorem gs_cald (C0 : gx_ok Γ cc own Ts d) {q N : Nat} {i : Int32} (ha : gx_arr (gx_ty Γ) cf q .char N) (hk : q < K) (hin : vp_in i N) (hd : decode cc pc = .ok (.caload, 1)) (kk : gx_G Γ k n (pc + 1) V (.int (S q i.toNatClampNeg) :: st) (gx_w K a cf S)) : gx_G Γ k n pc V (.int i :: .ref (a q) :: st) (gx_w K a cf S) := fun H locs ls hP hD hS hl => by
  obtain ⟨t0, cA, ht, hc⟩ := ha
  exact va_cald C0.1 C0.2.1 C0.2.2.2.2.2.1 hP q t0 (by rw [gx_w_get hk, hc]) ht hin hd (kk H locs ls hP hD hS hl)
theorem gs_cast (C0 : gx_ok Γ cc own Ts d) {q N : Nat} {i x : Int32} (ha : gx_arr (gx_ty Γ) cf q .char N) (hk : q < K) (hin : vp_in i N) {S1 : gx_S} (hS1 : S1 = gx_st S q i.toNatClampNeg (vp_nar .char x)) (hd : decode cc pc = .ok (.castore, 1)) (kk : gx_G Γ k n (pc + 1) V st (gx_w K a cf S1)) : gx_G Γ k n pc V (.int x :: .int i :: .ref (a q) :: st) (gx_w K a cf S) := fun H locs ls hP hD hS hl => by
  obtain ⟨t0, cA, ht, hc⟩ := ha
  exact va_cast C0.1 C0.2.1 C0.2.2.2.2.2.1 hP hD hS q t0 (by rw [gx_w_get hk, hc]) ht hin hd (fun H1 locs1 hP hD hS => by
    rw [← hc, gx_w_set] at hP hD
    rw [hS1] at kk
    exact kk H1 locs1 ls hP hD hS hl)
theorem gs_puti (C0 : gx_ok Γ cc own Ts d) {ix q ci N j : Nat} {C : String} {T : u_T} {ty : Nat → FieldType} {fs : List Value} {x : Int32} (hf : gx_fl Ts own ix C T N j) (hcl : gx_cls (gx_cl Γ) ci C T N ty) (hk : q < K) (hc : cf q (S q) = .inr (ci, fs)) (hr : cf q (upd (S q) j x) = .inr (ci, fs.set j (.int x))) (hfin : (T j).2.2.2 = false) (hn : narrow (ty j) (.int x) = .int x) (hfit : fits (ty j) (.int x) = true) (hlen : j < fs.length) {S1 : gx_S} (hS1 : S1 = gx_st S q j x) (hd : decode cc pc = .ok (.putfield ix, 3)) (kk : gx_G Γ k n (pc + 3) V st (gx_w K a cf S1)) : gx_G Γ k n pc V (.int x :: .ref (a q) :: st) (gx_w K a cf S) := by
  subst hS1
  exact gs_putf C0 (upd (S q) j x) hf hcl hk hc hr hfin hn hfit hlen hd kk
theorem gs_putl (C0 : gx_ok Γ cc own Ts d) {ix q ci N j h0 : Nat} {C : String} {T : u_T} {ty : Nat → FieldType} {fs : List Value} {v : Int64} (hf : gx_fl Ts own ix C T N j) (hcl : gx_cls (gx_cl Γ) ci C T N ty) (hk : q < K) (hc : cf q (S q) = .inr (ci, fs)) (hr : cf q (upd (upd (S q) h0 (gx_hi v)) (h0 + 1) (gx_lo v)) = .inr (ci, fs.set j (.long v))) (hfin : (T j).2.2.2 = false) (hn : narrow (ty j) (.long v) = .long v) (hfit : fits (ty j) (.long v) = true) (hlen : j < fs.length) {S1 : gx_S} (hS1 : S1 = gx_stl S q h0 v) (hd : decode cc pc = .ok (.putfield ix, 3)) (kk : gx_G Γ k n (pc + 3) V st (gx_w K a cf S1)) : gx_G Γ k n pc V (.long v :: .ref (a q) :: st) (gx_w K a cf S) := by
  subst hS1
  exact gs_putf C0 (upd (upd (S q) h0 (gx_hi v)) (h0 + 1) (gx_lo v)) hf hcl hk hc hr hfin hn hfit hlen hd kk
theorem gs_recv {q ci : Nat} {fs : List Value} (hk : q < K) (hc : cf q (S q) = .inr (ci, fs)) : (gx_w K a cf S)[q]? = some (a q, .inr (ci, fs)) := by rw [gx_w_get hk, hc]
theorem gs_alen (C0 : gx_ok Γ cc own Ts d) {q N : Nat} {ty : FieldType} {v : Int32} (ha : gx_arr (gx_ty Γ) cf q ty N) (hk : q < K) (hv : Int32.ofNat N = v) (hd : decode cc pc = .ok (.arraylength, 1)) (kk : gx_G Γ k n (pc + 1) V (.int v :: st) (gx_w K a cf S)) : gx_G Γ k n pc V (.ref (a q) :: st) (gx_w K a cf S) := fun H locs ls hP hD hS hl => by
  obtain ⟨t0, cA, ht, hc⟩ := ha
  exact va_alen C0.1 C0.2.1 C0.2.2.2.2.2.1 hP q t0 (by rw [gx_w_get hk, hc]) ht hv hd (kk H locs ls hP hD hS hl)
theorem gs_alenq (C0 : gx_ok Γ cc own Ts d) {q N : Nat} {ty : FieldType} {v : Int32} {f : Nat → Option Nat} (ha : gx_arrq (gx_ty Γ) cf q ty N f) (hk : q < K) (hv : Int32.ofNat N = v) (hd : decode cc pc = .ok (.arraylength, 1)) (kk : gx_G Γ k n (pc + 1) V (.int v :: st) (gx_w K a cf S)) : gx_G Γ k n pc V (.ref (a q) :: st) (gx_w K a cf S) := fun H locs ls hP hD hS hl => by
  obtain ⟨t0, cA, ht, hc⟩ := ha
  exact va_alen C0.1 C0.2.1 C0.2.2.2.2.2.1 hP q t0 (by rw [gx_w_get hk, hc]) ht hv hd (kk H locs ls hP hD hS hl)
end GS
/-! contracts: a method over a world w0, which leaves the world W1 of the state that it answers -/
def gx_rm (d : Nat) : Room := { frames := d, cells := 0, slots := 0, locals := 40 * d }
abbrev gx_Pre (D : va_G) (cl : List vw_C) (tys : List (ClassId × FieldType)) (av : List Value) (w0 : va_W) (sz : Nat) : Array Value → State → Prop := va_Pc av (fun U => U.heap.size = sz ∧ va_P D cl w0 U.heap ∧ va_K D cl tys U ∧ va_D (fun _ => True) w0)
abbrev gx_B (D : va_G) (cl : List vw_C) (tys : List (ClassId × FieldType)) (w0 : va_W) (W1 : gx_S → va_W) (sz : Nat) : gx_S → State → Prop := fun S' t => va_P D cl (W1 S') t.heap ∧ va_K D cl tys t ∧ va_D (va_A w0 sz) (W1 S')
def gx_mI (l : Launch) (D : va_G) (cl : List vw_C) (tys : List (ClassId × FieldType)) (y : MethodName) (ws : List Cond) (rm : Room) (av : List Value) (w0 : va_W) (W1 : gx_S → va_W) (o : Int32 × gx_S) : Prop := ∀ sz : Nat, Met l y ws rm (gx_Pre D cl tys av w0 sz) (va_Qi (fun r S' => (r, S') = o) (gx_B D cl tys w0 W1 sz) (va_A w0 sz)) 0 0 (va_A w0 sz)
def gx_mL (l : Launch) (D : va_G) (cl : List vw_C) (tys : List (ClassId × FieldType)) (y : MethodName) (ws : List Cond) (rm : Room) (av : List Value) (w0 : va_W) (W1 : gx_S → va_W) (o : Int64 × gx_S) : Prop := ∀ sz : Nat, Met l y ws rm (gx_Pre D cl tys av w0 sz) (va_Ql (fun r S' => (r, S') = o) (gx_B D cl tys w0 W1 sz) (va_A w0 sz)) 0 0 (va_A w0 sz)
def gx_mV (l : Launch) (D : va_G) (cl : List vw_C) (tys : List (ClassId × FieldType)) (y : MethodName) (ws : List Cond) (rm : Room) (av : List Value) (w0 : va_W) (W1 : gx_S → va_W) (o : gx_S) : Prop := ∀ sz : Nat, Met l y ws rm (gx_Pre D cl tys av w0 sz) (va_Qv (fun S' => S' = o) (gx_B D cl tys w0 W1 sz) (va_A w0 sz)) 0 0 (va_A w0 sz)
theorem gx_blind {D : va_G} {cl : List vw_C} {tys : List (ClassId × FieldType)} {av : List Value} {w0 : va_W} {sz : Nat} : FrameBlind (gx_Pre D cl tys av w0 sz) := fun a U g mk q => by
  obtain ⟨q0, q1, qP, qK, qD⟩ := q
  exact ⟨q0, q1, qP, va_K.moved (u := U) (U := U.calling g mk a) (Vm.Alike.refl U.vm) qK, qD⟩
/-- the cells of w1 beside those of w2: behind a call over w1 -/
theorem gx_fr {A : Nat → Prop} {D : va_G} {cl : List vw_C} {w1 w2 w1' : va_W} {H H1 : Heap} (hP : va_P D cl (w1 ++ w2) H) (hD : va_D A (w1 ++ w2)) (hk : ∀ q : Nat, q < H.size → ¬ va_A w1 H.size q → H1[q]? = H[q]?) (hF : ∀ q, va_A w1 H.size q → A q) (hP1 : va_P D cl w1' H1) (hD1 : va_D (va_A w1 H.size) w1') : va_P D cl (w1' ++ w2) H1 ∧ va_D A (w1' ++ w2) := by
  have at2 : ∀ (j : Nat) (q : Nat × va_E), w2[j]? = some q → (w1 ++ w2)[w1.length + j]? = some q := fun j q h => by rw [List.getElem?_append_right (by omega), Nat.add_sub_cancel_left]; exact h
  have at1 : ∀ (j : Nat) (q : Nat × va_E), w1[j]? = some q → j < w1.length ∧ (w1 ++ w2)[j]? = some q := fun j q h => by
    have := (List.getElem?_eq_some_iff.mp h).1
    exact ⟨this, by rw [List.getElem?_append_left this]; exact h⟩
  have no : ∀ (j : Nat) (q : Nat × va_E), w2[j]? = some q → ¬ va_A w1 H.size q.1 := fun j q h z => by
    rcases z with ⟨i, e, h1⟩ | z
    · obtain ⟨a1, a2⟩ := at1 i _ h1
      have := hD.1 _ _ _ _ a2 (at2 j q h) rfl
      omega
    · exact absurd (hP _ _ (at2 j q h)).lt (by omega)
  refine ⟨hP1.app (fun j q h => (hP _ _ (at2 j q h)).kept (hk _ (hP _ _ (at2 j q h)).lt (no j q h))), va_D.app (hD1.weaken (fun _ _ _ z => hF _ z)) ⟨fun i j p q hi hj e => ?_, fun j q h => hD.2 _ _ (at2 j q h)⟩ (fun i j p q hi hj e => ?_)⟩
  · have := hD.1 _ _ _ _ (at2 i p hi) (at2 j q hj) e
    omega
  · exact no j q hj (e ▸ hD1.2 i p hi)
theorem gx_fr2 {A : Nat → Prop} {D : va_G} {cl : List vw_C} {w1 w2 : va_W} {H : Heap} (hP : va_P D cl (w1 ++ w2) H) (hD : va_D A (w1 ++ w2)) : va_P D cl (w2 ++ w1) H ∧ va_D A (w2 ++ w1) := by
  have at2 : ∀ (j : Nat) (q : Nat × va_E), w2[j]? = some q → (w1 ++ w2)[w1.length + j]? = some q := fun j q h => by rw [List.getElem?_append_right (by omega), Nat.add_sub_cancel_left]; exact h
  have at1 : ∀ (j : Nat) (q : Nat × va_E), w1[j]? = some q → j < w1.length ∧ (w1 ++ w2)[j]? = some q := fun j q h => by
    have := (List.getElem?_eq_some_iff.mp h).1
    exact ⟨this, by rw [List.getElem?_append_left this]; exact h⟩
  refine ⟨va_P.app (fun j q h => hP _ _ (at2 j q h)) (fun j q h => hP _ _ (at1 j q h).2), va_D.app ⟨fun i j p q hi hj e => ?_, fun j q h => hD.2 _ _ (at2 j q h)⟩ ⟨fun i j p q hi hj e => ?_, fun j q h => hD.2 _ _ (at1 j q h).2⟩ (fun i j p q hi hj e => ?_)⟩
  · have := hD.1 _ _ _ _ (at2 i p hi) (at2 j q hj) e
    omega
  · exact hD.1 _ _ _ _ (at1 i p hi).2 (at1 j q hj).2 e
  · have := hD.1 _ _ _ _ (at2 i p hi) (at1 j q hj).2 e
    have := (at1 j q hj).1
    omega
theorem gx_left {A : Nat → Prop} {D : va_G} {cl : List vw_C} {w1 w2 : va_W} {H : Heap} (hP : va_P D cl (w1 ++ w2) H) (hD : va_D A (w1 ++ w2)) : va_P D cl w1 H ∧ va_D A w1 := by
  have at1 : ∀ (j : Nat) (q : Nat × va_E), w1[j]? = some q → j < w1.length ∧ (w1 ++ w2)[j]? = some q := fun j q h => by
    have := (List.getElem?_eq_some_iff.mp h).1
    exact ⟨this, by rw [List.getElem?_append_left this]; exact h⟩
  exact ⟨fun j q h => hP _ _ (at1 j q h).2, fun i j p q hi hj e => hD.1 _ _ _ _ (at1 i p hi).2 (at1 j q hj).2 e, fun j q h => hD.2 _ _ (at1 j q h).2⟩
theorem gx_own {A : Nat → Prop} {w : va_W} {H0 H : Heap} {locs : List Loc} (hD : va_D A w) (hS : va_S A H0 H locs) (hA : ∀ q, H0.size ≤ q → A q) : ∀ q, va_A w H.size q → A q := fun q z => by
  rcases z with ⟨k, e, h⟩ | z
  · exact hD.2 k _ h
  · exact hA q (Nat.le_trans hS.1 z)
section GC
variable {Γ : gx_T} {cc : ByteArray} {own : String} {Ts : List Cond} {d k n pc : Nat} {V rest st0 : List Value} {w w2 : va_W} {W1 : gx_S → va_W} {y : MethodName} {ws : List Cond} {rm : Room} {As : List Value} {ix maxL na : Nat} {bytes : ByteArray} {ret : Option FieldType} {b : Nat} {C : String}
/-- the call's link words, and that the callee's words are among Ts -/
def gx_lk (Ts : List Cond) (own : String) (ix : Nat) (C : String) (y : MethodName) (bytes : ByteArray) (maxL : Nat) (ret : Option FieldType) (na : Nat) : Prop := Cond.methodLink own ix y ∈ Ts ∧ Cond.instanceMethod y ∈ Ts ∧ Cond.selects C y y ∈ Ts ∧ Cond.initialized C ∈ Ts ∧ Cond.code y bytes maxL ret ∈ Ts ∧ y.cls = C ∧ y.cls ≠ "java/lang/invoke/MethodHandle" ∧ y.cls ≠ "java/lang/invoke/VarHandle" ∧ (parseMethodDescriptor y.desc).map (fun d => d.parameters.length) = some na
def gx_lkS (Ts : List Cond) (own : String) (ix : Nat) (y : MethodName) (bytes : ByteArray) (maxL : Nat) (ret : Option FieldType) (na : Nat) : Prop := Cond.methodLink own ix y ∈ Ts ∧ Cond.static y ∈ Ts ∧ Cond.initialized y.cls ∈ Ts ∧ Cond.code y bytes maxL ret ∈ Ts ∧ y.cls ≠ "java/lang/invoke/MethodHandle" ∧ y.cls ≠ "java/lang/invoke/VarHandle" ∧ (parseMethodDescriptor y.desc).map (fun d => d.parameters.length) = some na
/-- the classes and array classes of the claim -/
def gx_std (cl0 : List vw_C) (ty0 : List (ClassId × FieldType)) (cl : List vw_C) (tys : List (ClassId × FieldType)) : Prop := cl = cl0 ∧ tys = ty0
def gx_sub (Us Ts : List Cond) : Prop := ∀ w ∈ Us, w ∈ Ts ∧ ((w.onTables && w.keeps) = true ∨ ∃ ty, w = .arrayClass ty)
theorem gx_good {Us Ts : List Cond} (hs : gx_sub Us Ts) (hc : Cond.code y bytes maxL ret ∈ Ts) (hg : goodWord (Cond.code y bytes maxL ret) = true) : GoodIn Ts (.code y bytes maxL ret :: Us) := fun w h => by
  rcases List.mem_cons.mp h with e | h
  · subst e; exact ⟨hc, good_of_word hg⟩
  · exact hs w h
theorem gx_cw {Us : List Cond} {d' : Nat} (C0 : gx_ok Γ cc own Ts d) (hs : gx_sub Us Ts) (lk : gx_lk Ts own ix C y bytes maxL ret na) (hd : d' < d) (hm : maxL ≤ 21) : CallW (gx_R Γ) (gx_s Γ) (gx_args Γ) own C ix y bytes maxL ret (.code y bytes maxL ret :: Us) (gx_rm d') 0 0 na := by
  obtain ⟨h1, h2, h3, h4, h5, h6, h7, h8, h9⟩ := lk
  have ht := C0.2.2.2.2.1
  refine ⟨callB_of na ht (gx_good hs h5 rfl) rfl rfl rfl (by rw [h6]; exact ht _ h4) (ht _ h1) ⟨h7, h8, h9⟩ ⟨?_, ?_⟩, ht _ h2, ht _ h3⟩
  · have := C0.2.2.2.2.2.2.2.2.1
    simp only [gx_rm]; omega
  · have := C0.2.2.2.2.2.2.2.2.2
    simp only [gx_rm]; omega
theorem gx_cwS {Us : List Cond} {d' : Nat} (C0 : gx_ok Γ cc own Ts d) (hs : gx_sub Us Ts) (lk : gx_lkS Ts own ix y bytes maxL ret na) (hd : d' < d) (hm : maxL ≤ 21) : CallB (gx_R Γ) (gx_s Γ) (gx_args Γ) own ix y bytes maxL ret (.code y bytes maxL ret :: Us) (gx_rm d') 0 0 na ∧ (Cond.static y).before (gx_args Γ) (gx_s Γ) = true := by
  obtain ⟨h1, h2, h4, h5, h7, h8, h9⟩ := lk
  have ht := C0.2.2.2.2.1
  refine ⟨callB_of na ht (gx_good hs h5 rfl) rfl rfl rfl (ht _ h4) (ht _ h1) ⟨h7, h8, h9⟩ ⟨?_, ?_⟩, ht _ h2⟩
  · have := C0.2.2.2.2.2.2.2.2.1
    simp only [gx_rm]; omega
  · have := C0.2.2.2.2.2.2.2.2.2
    simp only [gx_rm]; omega
theorem gc_IV (C0 : gx_ok Γ cc own Ts d) {o : Int32 × gx_S} (hM : gx_mI (gx_l Γ) (gx_D Γ) (gx_cl Γ) (gx_ty Γ) y ws rm (.ref b :: As) w W1 o) (cw : CallW (gx_R Γ) (gx_s Γ) (gx_args Γ) own C ix y bytes maxL ret ws rm 0 0 na) {q ci N : Nat} {T : u_T} {fs : List Value} (hcl : (gx_cl Γ)[ci]? = some (C, T, N)) (he : w[q]? = some (b, .inr (ci, fs))) (hn : As.length = na) (hst : st0 = As.reverse ++ .ref b :: rest) (hW : (rest.map fun v => v.category).sum ≤ 8) (hb : k ≤ (gx_R Γ).cells ∧ n ≤ (gx_R Γ).slots) (hd : decode cc pc = .ok (.invokevirtual ix, 3)) (kk : gx_G Γ k n (pc + 3) V (.int o.1 :: rest) (W1 o.2)) : gx_G Γ k n pc V st0 w := fun H locs ls hP hD hS hl => by
  have hPa := hP
  have hDa := hD
  have hF := gx_own hDa hS C0.2.2.2.2.2.2.1
  refine va_calli (va_runV (As := As) (rest := rest) ⟨C0.1, C0.2.1, C0.2.2.1, C0.2.2.2.1, C0.2.2.2.2.1⟩ (hM H.size) cw ⟨gx_blind, va_recv C0.2.2.2.2.2.1 hPa hcl he, fun U hU hW => ⟨rfl, by rw [hU], by rw [hU]; exact hPa, va_K.moved hW.alike C0.2.2.2.2.2.1, hDa.weaken (fun _ _ _ _ => trivial)⟩⟩ rfl hn (gx_L_size hl) hst (lv_room hW) hd ⟨hb.1, hb.2⟩) hS (fun q _ z => hF q z) hF (fun r u t H1 locs1 ht hvm hw hB hz1 hk1 hS1 => ?_)
  · obtain ⟨hP1, hK1, hD1⟩ := hB
    rw [ht] at hP1
    subst hw
    exact kk H1 locs1 ls hP1 (hD1.weaken (fun _ _ _ z => hF _ z)) hS1 hl
theorem gc_IVf (C0 : gx_ok Γ cc own Ts d) {o : Int32 × gx_S} (hM : gx_mI (gx_l Γ) (gx_D Γ) (gx_cl Γ) (gx_ty Γ) y ws rm (.ref b :: As) w W1 o) (cw : CallW (gx_R Γ) (gx_s Γ) (gx_args Γ) own C ix y bytes maxL ret ws rm 0 0 na) {q ci N : Nat} {T : u_T} {fs : List Value} (hcl : (gx_cl Γ)[ci]? = some (C, T, N)) (he : w[q]? = some (b, .inr (ci, fs))) (hn : As.length = na) (hst : st0 = As.reverse ++ .ref b :: rest) (hW : (rest.map fun v => v.category).sum ≤ 8) (hb : k ≤ (gx_R Γ).cells ∧ n ≤ (gx_R Γ).slots) (hd : decode cc pc = .ok (.invokevirtual ix, 3)) (kk : gx_G Γ k n (pc + 3) V (.int o.1 :: rest) (W1 o.2 ++ w2)) : gx_G Γ k n pc V st0 (w ++ w2) := fun H locs ls hP hD hS hl => by
  obtain ⟨hPa, hDa⟩ := gx_left hP hD
  have hF := gx_own hDa hS C0.2.2.2.2.2.2.1
  refine va_calli (va_runV (As := As) (rest := rest) ⟨C0.1, C0.2.1, C0.2.2.1, C0.2.2.2.1, C0.2.2.2.2.1⟩ (hM H.size) cw ⟨gx_blind, va_recv C0.2.2.2.2.2.1 hPa hcl he, fun U hU hW => ⟨rfl, by rw [hU], by rw [hU]; exact hPa, va_K.moved hW.alike C0.2.2.2.2.2.1, hDa.weaken (fun _ _ _ _ => trivial)⟩⟩ rfl hn (gx_L_size hl) hst (lv_room hW) hd ⟨hb.1, hb.2⟩) hS (fun q _ z => hF q z) hF (fun r u t H1 locs1 ht hvm hw hB hz1 hk1 hS1 => ?_)
  · obtain ⟨hP1, hK1, hD1⟩ := hB
    rw [ht] at hP1
    subst hw
    obtain ⟨hP2, hD2⟩ := gx_fr hP hD hk1 hF hP1 hD1
    exact kk H1 locs1 ls hP2 hD2 hS1 hl
theorem gc_IS (C0 : gx_ok Γ cc own Ts d) {o : Int32 × gx_S} (hM : gx_mI (gx_l Γ) (gx_D Γ) (gx_cl Γ) (gx_ty Γ) y ws rm As w W1 o) (cw : CallB (gx_R Γ) (gx_s Γ) (gx_args Γ) own ix y bytes maxL ret ws rm 0 0 na ∧ (Cond.static y).before (gx_args Γ) (gx_s Γ) = true) (hn : As.length = na) (hst : st0 = As.reverse ++ rest) (hW : (rest.map fun v => v.category).sum ≤ 8) (hb : k ≤ (gx_R Γ).cells ∧ n ≤ (gx_R Γ).slots) (hd : decode cc pc = .ok (.invokestatic ix, 3)) (kk : gx_G Γ k n (pc + 3) V (.int o.1 :: rest) (W1 o.2)) : gx_G Γ k n pc V st0 w := fun H locs ls hP hD hS hl => by
  have hPa := hP
  have hDa := hD
  have hF := gx_own hDa hS C0.2.2.2.2.2.2.1
  refine va_calli (va_runS (As := As) (rest := rest) ⟨C0.1, C0.2.1, C0.2.2.1, C0.2.2.2.1, C0.2.2.2.2.1⟩ (hM H.size) cw ⟨gx_blind, fun U hU hW => ⟨rfl, by rw [hU], by rw [hU]; exact hPa, va_K.moved hW.alike C0.2.2.2.2.2.1, hDa.weaken (fun _ _ _ _ => trivial)⟩⟩ rfl hn (gx_L_size hl) hst (lv_room hW) hd ⟨hb.1, hb.2⟩) hS (fun q _ z => hF q z) hF (fun r u t H1 locs1 ht hvm hw hB hz1 hk1 hS1 => ?_)
  · obtain ⟨hP1, hK1, hD1⟩ := hB
    rw [ht] at hP1
    subst hw
    exact kk H1 locs1 ls hP1 (hD1.weaken (fun _ _ _ z => hF _ z)) hS1 hl
theorem gc_ISf (C0 : gx_ok Γ cc own Ts d) {o : Int32 × gx_S} (hM : gx_mI (gx_l Γ) (gx_D Γ) (gx_cl Γ) (gx_ty Γ) y ws rm As w W1 o) (cw : CallB (gx_R Γ) (gx_s Γ) (gx_args Γ) own ix y bytes maxL ret ws rm 0 0 na ∧ (Cond.static y).before (gx_args Γ) (gx_s Γ) = true) (hn : As.length = na) (hst : st0 = As.reverse ++ rest) (hW : (rest.map fun v => v.category).sum ≤ 8) (hb : k ≤ (gx_R Γ).cells ∧ n ≤ (gx_R Γ).slots) (hd : decode cc pc = .ok (.invokestatic ix, 3)) (kk : gx_G Γ k n (pc + 3) V (.int o.1 :: rest) (W1 o.2 ++ w2)) : gx_G Γ k n pc V st0 (w ++ w2) := fun H locs ls hP hD hS hl => by
  obtain ⟨hPa, hDa⟩ := gx_left hP hD
  have hF := gx_own hDa hS C0.2.2.2.2.2.2.1
  refine va_calli (va_runS (As := As) (rest := rest) ⟨C0.1, C0.2.1, C0.2.2.1, C0.2.2.2.1, C0.2.2.2.2.1⟩ (hM H.size) cw ⟨gx_blind, fun U hU hW => ⟨rfl, by rw [hU], by rw [hU]; exact hPa, va_K.moved hW.alike C0.2.2.2.2.2.1, hDa.weaken (fun _ _ _ _ => trivial)⟩⟩ rfl hn (gx_L_size hl) hst (lv_room hW) hd ⟨hb.1, hb.2⟩) hS (fun q _ z => hF q z) hF (fun r u t H1 locs1 ht hvm hw hB hz1 hk1 hS1 => ?_)
  · obtain ⟨hP1, hK1, hD1⟩ := hB
    rw [ht] at hP1
    subst hw
    obtain ⟨hP2, hD2⟩ := gx_fr hP hD hk1 hF hP1 hD1
    exact kk H1 locs1 ls hP2 hD2 hS1 hl
theorem gc_LV (C0 : gx_ok Γ cc own Ts d) {o : Int64 × gx_S} (hM : gx_mL (gx_l Γ) (gx_D Γ) (gx_cl Γ) (gx_ty Γ) y ws rm (.ref b :: As) w W1 o) (cw : CallW (gx_R Γ) (gx_s Γ) (gx_args Γ) own C ix y bytes maxL ret ws rm 0 0 na) {q ci N : Nat} {T : u_T} {fs : List Value} (hcl : (gx_cl Γ)[ci]? = some (C, T, N)) (he : w[q]? = some (b, .inr (ci, fs))) (hn : As.length = na) (hst : st0 = As.reverse ++ .ref b :: rest) (hW : (rest.map fun v => v.category).sum ≤ 8) (hb : k ≤ (gx_R Γ).cells ∧ n ≤ (gx_R Γ).slots) (hd : decode cc pc = .ok (.invokevirtual ix, 3)) (kk : gx_G Γ k n (pc + 3) V (.long o.1 :: rest) (W1 o.2)) : gx_G Γ k n pc V st0 w := fun H locs ls hP hD hS hl => by
  have hPa := hP
  have hDa := hD
  have hF := gx_own hDa hS C0.2.2.2.2.2.2.1
  refine va_calll (va_runV (As := As) (rest := rest) ⟨C0.1, C0.2.1, C0.2.2.1, C0.2.2.2.1, C0.2.2.2.2.1⟩ (hM H.size) cw ⟨gx_blind, va_recv C0.2.2.2.2.2.1 hPa hcl he, fun U hU hW => ⟨rfl, by rw [hU], by rw [hU]; exact hPa, va_K.moved hW.alike C0.2.2.2.2.2.1, hDa.weaken (fun _ _ _ _ => trivial)⟩⟩ rfl hn (gx_L_size hl) hst (lv_room hW) hd ⟨hb.1, hb.2⟩) hS (fun q _ z => hF q z) hF (fun r u t H1 locs1 ht hvm hw hB hz1 hk1 hS1 => ?_)
  · obtain ⟨hP1, hK1, hD1⟩ := hB
    rw [ht] at hP1
    subst hw
    exact kk H1 locs1 ls hP1 (hD1.weaken (fun _ _ _ z => hF _ z)) hS1 hl
theorem gc_LVf (C0 : gx_ok Γ cc own Ts d) {o : Int64 × gx_S} (hM : gx_mL (gx_l Γ) (gx_D Γ) (gx_cl Γ) (gx_ty Γ) y ws rm (.ref b :: As) w W1 o) (cw : CallW (gx_R Γ) (gx_s Γ) (gx_args Γ) own C ix y bytes maxL ret ws rm 0 0 na) {q ci N : Nat} {T : u_T} {fs : List Value} (hcl : (gx_cl Γ)[ci]? = some (C, T, N)) (he : w[q]? = some (b, .inr (ci, fs))) (hn : As.length = na) (hst : st0 = As.reverse ++ .ref b :: rest) (hW : (rest.map fun v => v.category).sum ≤ 8) (hb : k ≤ (gx_R Γ).cells ∧ n ≤ (gx_R Γ).slots) (hd : decode cc pc = .ok (.invokevirtual ix, 3)) (kk : gx_G Γ k n (pc + 3) V (.long o.1 :: rest) (W1 o.2 ++ w2)) : gx_G Γ k n pc V st0 (w ++ w2) := fun H locs ls hP hD hS hl => by
  obtain ⟨hPa, hDa⟩ := gx_left hP hD
  have hF := gx_own hDa hS C0.2.2.2.2.2.2.1
  refine va_calll (va_runV (As := As) (rest := rest) ⟨C0.1, C0.2.1, C0.2.2.1, C0.2.2.2.1, C0.2.2.2.2.1⟩ (hM H.size) cw ⟨gx_blind, va_recv C0.2.2.2.2.2.1 hPa hcl he, fun U hU hW => ⟨rfl, by rw [hU], by rw [hU]; exact hPa, va_K.moved hW.alike C0.2.2.2.2.2.1, hDa.weaken (fun _ _ _ _ => trivial)⟩⟩ rfl hn (gx_L_size hl) hst (lv_room hW) hd ⟨hb.1, hb.2⟩) hS (fun q _ z => hF q z) hF (fun r u t H1 locs1 ht hvm hw hB hz1 hk1 hS1 => ?_)
  · obtain ⟨hP1, hK1, hD1⟩ := hB
    rw [ht] at hP1
    subst hw
    obtain ⟨hP2, hD2⟩ := gx_fr hP hD hk1 hF hP1 hD1
    exact kk H1 locs1 ls hP2 hD2 hS1 hl
theorem gc_LS (C0 : gx_ok Γ cc own Ts d) {o : Int64 × gx_S} (hM : gx_mL (gx_l Γ) (gx_D Γ) (gx_cl Γ) (gx_ty Γ) y ws rm As w W1 o) (cw : CallB (gx_R Γ) (gx_s Γ) (gx_args Γ) own ix y bytes maxL ret ws rm 0 0 na ∧ (Cond.static y).before (gx_args Γ) (gx_s Γ) = true) (hn : As.length = na) (hst : st0 = As.reverse ++ rest) (hW : (rest.map fun v => v.category).sum ≤ 8) (hb : k ≤ (gx_R Γ).cells ∧ n ≤ (gx_R Γ).slots) (hd : decode cc pc = .ok (.invokestatic ix, 3)) (kk : gx_G Γ k n (pc + 3) V (.long o.1 :: rest) (W1 o.2)) : gx_G Γ k n pc V st0 w := fun H locs ls hP hD hS hl => by
  have hPa := hP
  have hDa := hD
  have hF := gx_own hDa hS C0.2.2.2.2.2.2.1
  refine va_calll (va_runS (As := As) (rest := rest) ⟨C0.1, C0.2.1, C0.2.2.1, C0.2.2.2.1, C0.2.2.2.2.1⟩ (hM H.size) cw ⟨gx_blind, fun U hU hW => ⟨rfl, by rw [hU], by rw [hU]; exact hPa, va_K.moved hW.alike C0.2.2.2.2.2.1, hDa.weaken (fun _ _ _ _ => trivial)⟩⟩ rfl hn (gx_L_size hl) hst (lv_room hW) hd ⟨hb.1, hb.2⟩) hS (fun q _ z => hF q z) hF (fun r u t H1 locs1 ht hvm hw hB hz1 hk1 hS1 => ?_)
  · obtain ⟨hP1, hK1, hD1⟩ := hB
    rw [ht] at hP1
    subst hw
    exact kk H1 locs1 ls hP1 (hD1.weaken (fun _ _ _ z => hF _ z)) hS1 hl
theorem gc_LSf (C0 : gx_ok Γ cc own Ts d) {o : Int64 × gx_S} (hM : gx_mL (gx_l Γ) (gx_D Γ) (gx_cl Γ) (gx_ty Γ) y ws rm As w W1 o) (cw : CallB (gx_R Γ) (gx_s Γ) (gx_args Γ) own ix y bytes maxL ret ws rm 0 0 na ∧ (Cond.static y).before (gx_args Γ) (gx_s Γ) = true) (hn : As.length = na) (hst : st0 = As.reverse ++ rest) (hW : (rest.map fun v => v.category).sum ≤ 8) (hb : k ≤ (gx_R Γ).cells ∧ n ≤ (gx_R Γ).slots) (hd : decode cc pc = .ok (.invokestatic ix, 3)) (kk : gx_G Γ k n (pc + 3) V (.long o.1 :: rest) (W1 o.2 ++ w2)) : gx_G Γ k n pc V st0 (w ++ w2) := fun H locs ls hP hD hS hl => by
  obtain ⟨hPa, hDa⟩ := gx_left hP hD
  have hF := gx_own hDa hS C0.2.2.2.2.2.2.1
  refine va_calll (va_runS (As := As) (rest := rest) ⟨C0.1, C0.2.1, C0.2.2.1, C0.2.2.2.1, C0.2.2.2.2.1⟩ (hM H.size) cw ⟨gx_blind, fun U hU hW => ⟨rfl, by rw [hU], by rw [hU]; exact hPa, va_K.moved hW.alike C0.2.2.2.2.2.1, hDa.weaken (fun _ _ _ _ => trivial)⟩⟩ rfl hn (gx_L_size hl) hst (lv_room hW) hd ⟨hb.1, hb.2⟩) hS (fun q _ z => hF q z) hF (fun r u t H1 locs1 ht hvm hw hB hz1 hk1 hS1 => ?_)
  · obtain ⟨hP1, hK1, hD1⟩ := hB
    rw [ht] at hP1
    subst hw
    obtain ⟨hP2, hD2⟩ := gx_fr hP hD hk1 hF hP1 hD1
    exact kk H1 locs1 ls hP2 hD2 hS1 hl
theorem gc_VV (C0 : gx_ok Γ cc own Ts d) {o : gx_S} (hM : gx_mV (gx_l Γ) (gx_D Γ) (gx_cl Γ) (gx_ty Γ) y ws rm (.ref b :: As) w W1 o) (cw : CallW (gx_R Γ) (gx_s Γ) (gx_args Γ) own C ix y bytes maxL ret ws rm 0 0 na) {q ci N : Nat} {T : u_T} {fs : List Value} (hcl : (gx_cl Γ)[ci]? = some (C, T, N)) (he : w[q]? = some (b, .inr (ci, fs))) (hn : As.length = na) (hst : st0 = As.reverse ++ .ref b :: rest) (hW : (rest.map fun v => v.category).sum ≤ 8) (hb : k ≤ (gx_R Γ).cells ∧ n ≤ (gx_R Γ).slots) (hd : decode cc pc = .ok (.invokevirtual ix, 3)) (kk : gx_G Γ k n (pc + 3) V (rest) (W1 o)) : gx_G Γ k n pc V st0 w := fun H locs ls hP hD hS hl => by
  have hPa := hP
  have hDa := hD
  have hF := gx_own hDa hS C0.2.2.2.2.2.2.1
  refine va_callv (va_runV (As := As) (rest := rest) ⟨C0.1, C0.2.1, C0.2.2.1, C0.2.2.2.1, C0.2.2.2.2.1⟩ (hM H.size) cw ⟨gx_blind, va_recv C0.2.2.2.2.2.1 hPa hcl he, fun U hU hW => ⟨rfl, by rw [hU], by rw [hU]; exact hPa, va_K.moved hW.alike C0.2.2.2.2.2.1, hDa.weaken (fun _ _ _ _ => trivial)⟩⟩ rfl hn (gx_L_size hl) hst (lv_room hW) hd ⟨hb.1, hb.2⟩) hS (fun q _ z => hF q z) hF (fun u t H1 locs1 ht hvm hw hB hz1 hk1 hS1 => ?_)
  · obtain ⟨hP1, hK1, hD1⟩ := hB
    rw [ht] at hP1
    subst hw
    exact kk H1 locs1 ls hP1 (hD1.weaken (fun _ _ _ z => hF _ z)) hS1 hl
theorem gc_VVf (C0 : gx_ok Γ cc own Ts d) {o : gx_S} (hM : gx_mV (gx_l Γ) (gx_D Γ) (gx_cl Γ) (gx_ty Γ) y ws rm (.ref b :: As) w W1 o) (cw : CallW (gx_R Γ) (gx_s Γ) (gx_args Γ) own C ix y bytes maxL ret ws rm 0 0 na) {q ci N : Nat} {T : u_T} {fs : List Value} (hcl : (gx_cl Γ)[ci]? = some (C, T, N)) (he : w[q]? = some (b, .inr (ci, fs))) (hn : As.length = na) (hst : st0 = As.reverse ++ .ref b :: rest) (hW : (rest.map fun v => v.category).sum ≤ 8) (hb : k ≤ (gx_R Γ).cells ∧ n ≤ (gx_R Γ).slots) (hd : decode cc pc = .ok (.invokevirtual ix, 3)) (kk : gx_G Γ k n (pc + 3) V (rest) (W1 o ++ w2)) : gx_G Γ k n pc V st0 (w ++ w2) := fun H locs ls hP hD hS hl => by
  obtain ⟨hPa, hDa⟩ := gx_left hP hD
  have hF := gx_own hDa hS C0.2.2.2.2.2.2.1
  refine va_callv (va_runV (As := As) (rest := rest) ⟨C0.1, C0.2.1, C0.2.2.1, C0.2.2.2.1, C0.2.2.2.2.1⟩ (hM H.size) cw ⟨gx_blind, va_recv C0.2.2.2.2.2.1 hPa hcl he, fun U hU hW => ⟨rfl, by rw [hU], by rw [hU]; exact hPa, va_K.moved hW.alike C0.2.2.2.2.2.1, hDa.weaken (fun _ _ _ _ => trivial)⟩⟩ rfl hn (gx_L_size hl) hst (lv_room hW) hd ⟨hb.1, hb.2⟩) hS (fun q _ z => hF q z) hF (fun u t H1 locs1 ht hvm hw hB hz1 hk1 hS1 => ?_)
  · obtain ⟨hP1, hK1, hD1⟩ := hB
    rw [ht] at hP1
    subst hw
    obtain ⟨hP2, hD2⟩ := gx_fr hP hD hk1 hF hP1 hD1
    exact kk H1 locs1 ls hP2 hD2 hS1 hl
theorem gc_VS (C0 : gx_ok Γ cc own Ts d) {o : gx_S} (hM : gx_mV (gx_l Γ) (gx_D Γ) (gx_cl Γ) (gx_ty Γ) y ws rm As w W1 o) (cw : CallB (gx_R Γ) (gx_s Γ) (gx_args Γ) own ix y bytes maxL ret ws rm 0 0 na ∧ (Cond.static y).before (gx_args Γ) (gx_s Γ) = true) (hn : As.length = na) (hst : st0 = As.reverse ++ rest) (hW : (rest.map fun v => v.category).sum ≤ 8) (hb : k ≤ (gx_R Γ).cells ∧ n ≤ (gx_R Γ).slots) (hd : decode cc pc = .ok (.invokestatic ix, 3)) (kk : gx_G Γ k n (pc + 3) V (rest) (W1 o)) : gx_G Γ k n pc V st0 w := fun H locs ls hP hD hS hl => by
  have hPa := hP
  have hDa := hD
  have hF := gx_own hDa hS C0.2.2.2.2.2.2.1
  refine va_callv (va_runS (As := As) (rest := rest) ⟨C0.1, C0.2.1, C0.2.2.1, C0.2.2.2.1, C0.2.2.2.2.1⟩ (hM H.size) cw ⟨gx_blind, fun U hU hW => ⟨rfl, by rw [hU], by rw [hU]; exact hPa, va_K.moved hW.alike C0.2.2.2.2.2.1, hDa.weaken (fun _ _ _ _ => trivial)⟩⟩ rfl hn (gx_L_size hl) hst (lv_room hW) hd ⟨hb.1, hb.2⟩) hS (fun q _ z => hF q z) hF (fun u t H1 locs1 ht hvm hw hB hz1 hk1 hS1 => ?_)
  · obtain ⟨hP1, hK1, hD1⟩ := hB
    rw [ht] at hP1
    subst hw
    exact kk H1 locs1 ls hP1 (hD1.weaken (fun _ _ _ z => hF _ z)) hS1 hl
theorem gc_VSf (C0 : gx_ok Γ cc own Ts d) {o : gx_S} (hM : gx_mV (gx_l Γ) (gx_D Γ) (gx_cl Γ) (gx_ty Γ) y ws rm As w W1 o) (cw : CallB (gx_R Γ) (gx_s Γ) (gx_args Γ) own ix y bytes maxL ret ws rm 0 0 na ∧ (Cond.static y).before (gx_args Γ) (gx_s Γ) = true) (hn : As.length = na) (hst : st0 = As.reverse ++ rest) (hW : (rest.map fun v => v.category).sum ≤ 8) (hb : k ≤ (gx_R Γ).cells ∧ n ≤ (gx_R Γ).slots) (hd : decode cc pc = .ok (.invokestatic ix, 3)) (kk : gx_G Γ k n (pc + 3) V (rest) (W1 o ++ w2)) : gx_G Γ k n pc V st0 (w ++ w2) := fun H locs ls hP hD hS hl => by
  obtain ⟨hPa, hDa⟩ := gx_left hP hD
  have hF := gx_own hDa hS C0.2.2.2.2.2.2.1
  refine va_callv (va_runS (As := As) (rest := rest) ⟨C0.1, C0.2.1, C0.2.2.1, C0.2.2.2.1, C0.2.2.2.2.1⟩ (hM H.size) cw ⟨gx_blind, fun U hU hW => ⟨rfl, by rw [hU], by rw [hU]; exact hPa, va_K.moved hW.alike C0.2.2.2.2.2.1, hDa.weaken (fun _ _ _ _ => trivial)⟩⟩ rfl hn (gx_L_size hl) hst (lv_room hW) hd ⟨hb.1, hb.2⟩) hS (fun q _ z => hF q z) hF (fun u t H1 locs1 ht hvm hw hB hz1 hk1 hS1 => ?_)
  · obtain ⟨hP1, hK1, hD1⟩ := hB
    rw [ht] at hP1
    subst hw
    obtain ⟨hP2, hD2⟩ := gx_fr hP hD hk1 hF hP1 hD1
    exact kk H1 locs1 ls hP2 hD2 hS1 hl
end GC
/-! a method's start and its ends -/
def gx_finI (Γ : gx_T) (ret : Option FieldType) (W1 : gx_S → va_W) (o : Int32 × gx_S) : Prop := ∃ w0 : va_W, gx_A Γ = va_A w0 (gx_s Γ).heap.size ∧ gx_H0 Γ = (gx_s Γ).heap ∧ (gx_meth Γ).sig.returnType = ret ∧ gx_Q Γ = MQ (gx_below Γ) (va_Qi (fun r S' => (r, S') = o) (gx_B (gx_D Γ) (gx_cl Γ) (gx_ty Γ) w0 W1 (gx_s Γ).heap.size) (va_A w0 (gx_s Γ).heap.size)) (gx_args Γ) (gx_s Γ) 0 0 (va_A w0 (gx_s Γ).heap.size)
theorem gx_startI {l : Launch} {D : va_G} {cl : List vw_C} {tys : List (ClassId × FieldType)} {y : MethodName} {b : ByteArray} {maxL : Nat} {ret : Option FieldType} {Us : List Cond} {d : Nat} {av V : List Value} {w0 : va_W} {W1 : gx_S → va_W} {o : Int32 × gx_S} (kn : Nat) (hy : plainName y.cls = true) (hlen : (lg_sl av).length ≤ maxL) (hV : gx_V av ++ List.replicate kn .null = V) (body : ∀ Γ : gx_T, gx_l Γ = l → gx_D Γ = D → gx_cl Γ = cl → gx_ty Γ = tys → gx_nL Γ = maxL → gx_ok Γ b y.cls Us d → gx_finI Γ ret W1 o → gx_G Γ 0 0 0 V [] w0) : gx_mI l D cl tys y (.code y b maxL ret :: Us) (gx_rm d) av w0 W1 o := by
  intro sz
  refine Met.ofW (cc := b) (maxL := maxL) (ret := ret) hy rfl ?_
  intro p e s m args below meth c s₁ B hml hv
  obtain ⟨rfl, hsz, hP, hK, hD0⟩ := hv
  subst hsz
  subst hV
  have hts := atoms_spec (ws := .code y b maxL ret :: Us) B.pre
  have hl := lv_entry av (n := maxL) hlen
  rw [lg_entry_eq]
  exact body ((p, l, e, (headSpec (.code y b maxL ret :: Us) (gx_rm d)).room, s, m, av.toArray, below, meth, c), (D, cl, tys), va_A w0 s.heap.size, s.heap, MQ below (va_Qi (fun r S' => (r, S') = o) (gx_B D cl tys w0 W1 s.heap.size) (va_A w0 s.heap.size)) av.toArray s 0 0 (va_A w0 s.heap.size), maxL) rfl rfl rfl rfl rfl
    ⟨B.exec, B.bytes, hml, findClass_of_methodNamed B.named, fun w hw => hts w (List.mem_cons_of_mem _ hw), hK, fun q h => Or.inr h, B.notSynchronized, Nat.le_refl _, Nat.le_refl _⟩ ⟨w0, rfl, rfl, B.returns, rfl⟩ s.heap [] _ hP hD0.self va_S.rf (gx_L_pad hl kn)
def gx_finL (Γ : gx_T) (ret : Option FieldType) (W1 : gx_S → va_W) (o : Int64 × gx_S) : Prop := ∃ w0 : va_W, gx_A Γ = va_A w0 (gx_s Γ).heap.size ∧ gx_H0 Γ = (gx_s Γ).heap ∧ (gx_meth Γ).sig.returnType = ret ∧ gx_Q Γ = MQ (gx_below Γ) (va_Ql (fun r S' => (r, S') = o) (gx_B (gx_D Γ) (gx_cl Γ) (gx_ty Γ) w0 W1 (gx_s Γ).heap.size) (va_A w0 (gx_s Γ).heap.size)) (gx_args Γ) (gx_s Γ) 0 0 (va_A w0 (gx_s Γ).heap.size)
theorem gx_startL {l : Launch} {D : va_G} {cl : List vw_C} {tys : List (ClassId × FieldType)} {y : MethodName} {b : ByteArray} {maxL : Nat} {ret : Option FieldType} {Us : List Cond} {d : Nat} {av V : List Value} {w0 : va_W} {W1 : gx_S → va_W} {o : Int64 × gx_S} (kn : Nat) (hy : plainName y.cls = true) (hlen : (lg_sl av).length ≤ maxL) (hV : gx_V av ++ List.replicate kn .null = V) (body : ∀ Γ : gx_T, gx_l Γ = l → gx_D Γ = D → gx_cl Γ = cl → gx_ty Γ = tys → gx_nL Γ = maxL → gx_ok Γ b y.cls Us d → gx_finL Γ ret W1 o → gx_G Γ 0 0 0 V [] w0) : gx_mL l D cl tys y (.code y b maxL ret :: Us) (gx_rm d) av w0 W1 o := by
  intro sz
  refine Met.ofW (cc := b) (maxL := maxL) (ret := ret) hy rfl ?_
  intro p e s m args below meth c s₁ B hml hv
  obtain ⟨rfl, hsz, hP, hK, hD0⟩ := hv
  subst hsz
  subst hV
  have hts := atoms_spec (ws := .code y b maxL ret :: Us) B.pre
  have hl := lv_entry av (n := maxL) hlen
  rw [lg_entry_eq]
  exact body ((p, l, e, (headSpec (.code y b maxL ret :: Us) (gx_rm d)).room, s, m, av.toArray, below, meth, c), (D, cl, tys), va_A w0 s.heap.size, s.heap, MQ below (va_Ql (fun r S' => (r, S') = o) (gx_B D cl tys w0 W1 s.heap.size) (va_A w0 s.heap.size)) av.toArray s 0 0 (va_A w0 s.heap.size), maxL) rfl rfl rfl rfl rfl
    ⟨B.exec, B.bytes, hml, findClass_of_methodNamed B.named, fun w hw => hts w (List.mem_cons_of_mem _ hw), hK, fun q h => Or.inr h, B.notSynchronized, Nat.le_refl _, Nat.le_refl _⟩ ⟨w0, rfl, rfl, B.returns, rfl⟩ s.heap [] _ hP hD0.self va_S.rf (gx_L_pad hl kn)
def gx_finV (Γ : gx_T) (ret : Option FieldType) (W1 : gx_S → va_W) (o : gx_S) : Prop := ∃ w0 : va_W, gx_A Γ = va_A w0 (gx_s Γ).heap.size ∧ gx_H0 Γ = (gx_s Γ).heap ∧ (gx_meth Γ).sig.returnType = ret ∧ gx_Q Γ = MQ (gx_below Γ) (va_Qv (fun S' => S' = o) (gx_B (gx_D Γ) (gx_cl Γ) (gx_ty Γ) w0 W1 (gx_s Γ).heap.size) (va_A w0 (gx_s Γ).heap.size)) (gx_args Γ) (gx_s Γ) 0 0 (va_A w0 (gx_s Γ).heap.size)
theorem gx_startV {l : Launch} {D : va_G} {cl : List vw_C} {tys : List (ClassId × FieldType)} {y : MethodName} {b : ByteArray} {maxL : Nat} {ret : Option FieldType} {Us : List Cond} {d : Nat} {av V : List Value} {w0 : va_W} {W1 : gx_S → va_W} {o : gx_S} (kn : Nat) (hy : plainName y.cls = true) (hlen : (lg_sl av).length ≤ maxL) (hV : gx_V av ++ List.replicate kn .null = V) (body : ∀ Γ : gx_T, gx_l Γ = l → gx_D Γ = D → gx_cl Γ = cl → gx_ty Γ = tys → gx_nL Γ = maxL → gx_ok Γ b y.cls Us d → gx_finV Γ ret W1 o → gx_G Γ 0 0 0 V [] w0) : gx_mV l D cl tys y (.code y b maxL ret :: Us) (gx_rm d) av w0 W1 o := by
  intro sz
  refine Met.ofW (cc := b) (maxL := maxL) (ret := ret) hy rfl ?_
  intro p e s m args below meth c s₁ B hml hv
  obtain ⟨rfl, hsz, hP, hK, hD0⟩ := hv
  subst hsz
  subst hV
  have hts := atoms_spec (ws := .code y b maxL ret :: Us) B.pre
  have hl := lv_entry av (n := maxL) hlen
  rw [lg_entry_eq]
  exact body ((p, l, e, (headSpec (.code y b maxL ret :: Us) (gx_rm d)).room, s, m, av.toArray, below, meth, c), (D, cl, tys), va_A w0 s.heap.size, s.heap, MQ below (va_Qv (fun S' => S' = o) (gx_B D cl tys w0 W1 s.heap.size) (va_A w0 s.heap.size)) av.toArray s 0 0 (va_A w0 s.heap.size), maxL) rfl rfl rfl rfl rfl
    ⟨B.exec, B.bytes, hml, findClass_of_methodNamed B.named, fun w hw => hts w (List.mem_cons_of_mem _ hw), hK, fun q h => Or.inr h, B.notSynchronized, Nat.le_refl _, Nat.le_refl _⟩ ⟨w0, rfl, rfl, B.returns, rfl⟩ s.heap [] _ hP hD0.self va_S.rf (gx_L_pad hl kn)
theorem gx_iret {Γ : gx_T} {cc : ByteArray} {own : String} {Ts : List Cond} {d pc : Nat} {V : List Value} {W1 : gx_S → va_W} {S : gx_S} {o : Int32 × gx_S} {v : Int32} {ty : FieldType} (C : gx_ok Γ cc own Ts d) (F : gx_finI Γ (some ty) W1 o) (hn : narrow ty (.int v) = .int v) (hd : decode cc pc = .ok (.ireturn, 1)) (e : (v, S) = o) : gx_G Γ 0 0 pc V [.int v] (W1 S) := by
  obtain ⟨w0, hA, hH, hr, hQ⟩ := F
  intro H locs ls hP hD hS hl
  rw [hA] at hD hS
  rw [hH] at hS
  unfold gx_W
  rw [hQ]
  exact W.zret C.1 C.2.1 hr hn (fun t ht hW => ⟨⟨v, S, rfl, e, by rw [ht]; exact hP, va_K.moved hW.alike C.2.2.2.2.2.1, hD⟩, hS.F ht⟩) hS.2.2 hd C.2.2.2.2.2.2.2.1
theorem gx_lret {Γ : gx_T} {cc : ByteArray} {own : String} {Ts : List Cond} {d pc : Nat} {V : List Value} {W1 : gx_S → va_W} {S : gx_S} {o : Int64 × gx_S} {v : Int64} (C : gx_ok Γ cc own Ts d) (F : gx_finL Γ (some .long) W1 o) (hd : decode cc pc = .ok (.lreturn, 1)) (e : (v, S) = o) : gx_G Γ 0 0 pc V [.long v] (W1 S) := by
  obtain ⟨w0, hA, hH, hr, hQ⟩ := F
  intro H locs ls hP hD hS hl
  rw [hA] at hD hS
  rw [hH] at hS
  unfold gx_W
  rw [hQ]
  exact W.lret C.1 C.2.1 hr (fun t ht hW => ⟨⟨v, S, rfl, e, by rw [ht]; exact hP, va_K.moved hW.alike C.2.2.2.2.2.1, hD⟩, hS.F ht⟩) hS.2.2 hd C.2.2.2.2.2.2.2.1
theorem gx_vret {Γ : gx_T} {cc : ByteArray} {own : String} {Ts : List Cond} {d pc : Nat} {V : List Value} {W1 : gx_S → va_W} {S : gx_S} {o : gx_S} (C : gx_ok Γ cc own Ts d) (F : gx_finV Γ none W1 o) (hd : decode cc pc = .ok (.return_, 1)) (e : S = o) : gx_G Γ 0 0 pc V [] (W1 S) := by
  obtain ⟨w0, hA, hH, hr, hQ⟩ := F
  intro H locs ls hP hD hS hl
  rw [hA] at hD hS
  rw [hH] at hS
  unfold gx_W
  rw [hQ]
  exact W.vret C.1 C.2.1 hr (fun t ht hW => ⟨⟨S, rfl, e, by rw [ht]; exact hP, va_K.moved hW.alike C.2.2.2.2.2.1, hD⟩, hS.F ht⟩) hS.2.2 hd C.2.2.2.2.2.2.2.1
/-! pure models: what fails is none -/
def gx_rd {R : Type} (f : Nat → Int32) (N : Nat) (i : Int32) (k : Int32 → Option R) : Option R := if i < 0 ∨ N ≤ i.toNatClampNeg then none else k (f i.toNatClampNeg)
/-- an index in its row -/
def gx_ck {R : Type} (N : Nat) (i : Int32) (k : Option R) : Option R := if i < 0 ∨ N ≤ i.toNatClampNeg then none else k
def gx_nz {R : Type} (y : Int32) (k : Option R) : Option R := if y = 0 then none else k
/-- a boolean, a char -/
def gx_bz {R : Type} (y : Int32) (k : Option R) : Option R := if y = 0 ∨ y = 1 then k else none
def gx_bc {R : Type} (y : Int32) (k : Option R) : Option R := if y.toUInt32.toUInt16.toUInt32.toInt32 = y then k else none
/-- a call that leaves the state; one that changes it -/
def gx_cp {A R : Type} (o : Option A) (k : A → Option R) : Option R := match o with
  | some v => k v
  | none => none
def gx_cs {A R : Type} (o : Option (A × gx_S)) (k : A → gx_S → Option R) : Option R := match o with
  | some v => k v.1 v.2
  | none => none
def gx_let {R : Type} (v : gx_S) (k : gx_S → Option R) : Option R := k v
def gx_loop {L R : Type} (body : L → (L → Option R) → Option R) : Nat → L → Option R
  | 0, _ => none
  | n + 1, t => body t (gx_loop body n)
theorem gi_rd {R : Type} {f : Nat → Int32} {N : Nat} {i : Int32} {k : Int32 → Option R} {o : R} (h : gx_rd f N i k = some o) : vp_in i N ∧ k (f i.toNatClampNeg) = some o := by
  unfold gx_rd at h
  split at h
  · cases h
  · exact ⟨by assumption, h⟩
theorem gi_ck {R : Type} {N : Nat} {i : Int32} {k : Option R} {o : R} (h : gx_ck N i k = some o) : vp_in i N ∧ k = some o := by
  unfold gx_ck at h
  split at h
  · cases h
  · exact ⟨by assumption, h⟩
theorem gi_nz {R : Type} {y : Int32} {k : Option R} {o : R} (h : gx_nz y k = some o) : ¬ y = 0 ∧ k = some o := by
  unfold gx_nz at h
  split at h
  · cases h
  · exact ⟨by assumption, h⟩
theorem gi_bz {R : Type} {y : Int32} {k : Option R} {o : R} (h : gx_bz y k = some o) : (narrow .boolean (.int y) = .int y ∧ fits .boolean (.int y) = true) ∧ k = some o := by
  unfold gx_bz at h
  split at h
  · rename_i hy
    rcases hy with rfl | rfl
    · exact ⟨⟨by decide, by decide⟩, h⟩
    · exact ⟨⟨by decide, by decide⟩, h⟩
  · cases h
theorem gi_bc {R : Type} {y : Int32} {k : Option R} {o : R} (h : gx_bc y k = some o) : narrow .char (.int y) = .int y ∧ k = some o := by
  unfold gx_bc at h
  split at h
  · rename_i hy
    exact ⟨by show Value.int _ = _; rw [hy], h⟩
  · cases h
theorem gi_let {R : Type} {v : gx_S} {k : gx_S → Option R} {o : R} (h : gx_let v k = some o) : ∃ w, w = v ∧ k w = some o := ⟨v, rfl, h⟩
theorem gi_cp {A R : Type} {o : Option A} {k : A → Option R} {z : R} (h : gx_cp o k = some z) : ∃ v, o = some v ∧ k v = some z := by
  cases o with
  | none => cases h
  | some v => exact ⟨v, rfl, h⟩
theorem gi_cs {A R : Type} {o : Option (A × gx_S)} {k : A → gx_S → Option R} {z : R} (h : gx_cs o k = some z) : ∃ v S', o = some (v, S') ∧ k v S' = some z := by
  cases o with
  | none => cases h
  | some v => exact ⟨v.1, v.2, rfl, h⟩
theorem gi_t {R : Type} {c : Prop} {inst : Decidable c} {A B : Option R} {o : R} (hc : c) (h : (if c then A else B) = some o) : A = some o := by rwa [if_pos hc] at h
theorem gi_f {R : Type} {c : Prop} {inst : Decidable c} {A B : Option R} {o : R} (hc : ¬ c) (h : (if c then A else B) = some o) : B = some o := by rwa [if_neg hc] at h
theorem gi_loop {L R : Type} {body : L → (L → Option R) → Option R} {P : L → Prop} {o : R} (hb : ∀ (kk : L → Option R) (t : L), (∀ t', kk t' = some o → P t') → body t kk = some o → P t) : ∀ (n : Nat) (t : L), gx_loop body n t = some o → P t
  | 0, t, h => by cases h
  | n + 1, t, h => hb (gx_loop body n) t (fun t' h' => gi_loop hb n t' h') h
end
section
theorem dJ9_max_7cf53_0 : decode cJ9_max_7cf53 0 = .ok (.iload_n 0, 1) := by decide +kernel
theorem dJ9_max_7cf53_1 : decode cJ9_max_7cf53 1 = .ok (.iload_n 1, 1) := by decide +kernel
theorem dJ9_max_7cf53_2 : decode cJ9_max_7cf53 2 = .ok (.if_icmp .lt 7, 3) := by decide +kernel
theorem dJ9_max_7cf53_5 : decode cJ9_max_7cf53 5 = .ok (.iload_n 0, 1) := by decide +kernel
theorem dJ9_max_7cf53_6 : decode cJ9_max_7cf53 6 = .ok (.goto 4, 3) := by decide +kernel
theorem dJ9_max_7cf53_9 : decode cJ9_max_7cf53 9 = .ok (.iload_n 1, 1) := by decide +kernel
theorem dJ9_max_7cf53_10 : decode cJ9_max_7cf53 10 = .ok (.ireturn, 1) := by decide +kernel
theorem dX5_costTo_0 : decode cX5_costTo 0 = .ok (.aload_n 0, 1) := by decide +kernel
theorem dX5_costTo_1 : decode cX5_costTo 1 = .ok (.getfield 9, 3) := by decide +kernel
theorem dX5_costTo_4 : decode cX5_costTo 4 = .ok (.iload_n 1, 1) := by decide +kernel
theorem dX5_costTo_5 : decode cX5_costTo 5 = .ok (.iaload, 1) := by decide +kernel
theorem dX5_costTo_6 : decode cX5_costTo 6 = .ok (.iconst 3, 1) := by decide +kernel
theorem dX5_costTo_7 : decode cX5_costTo 7 = .ok (.if_icmp .ne 23, 3) := by decide +kernel
theorem dX5_costTo_10 : decode cX5_costTo 10 = .ok (.iconst 0, 1) := by decide +kernel
theorem dX5_costTo_11 : decode cX5_costTo 11 = .ok (.aload_n 0, 1) := by decide +kernel
theorem dX5_costTo_12 : decode cX5_costTo 12 = .ok (.getfield 21, 3) := by decide +kernel
theorem dX5_costTo_15 : decode cX5_costTo 15 = .ok (.iload_n 2, 1) := by decide +kernel
theorem dX5_costTo_16 : decode cX5_costTo 16 = .ok (.iaload, 1) := by decide +kernel
theorem dX5_costTo_17 : decode cX5_costTo 17 = .ok (.aload_n 0, 1) := by decide +kernel
theorem dX5_costTo_18 : decode cX5_costTo 18 = .ok (.getfield 15, 3) := by decide +kernel
theorem dX5_costTo_21 : decode cX5_costTo 21 = .ok (.iload_n 1, 1) := by decide +kernel
theorem dX5_costTo_22 : decode cX5_costTo 22 = .ok (.iaload, 1) := by decide +kernel
theorem dX5_costTo_23 : decode cX5_costTo 23 = .ok (.isub, 1) := by decide +kernel
theorem dX5_costTo_24 : decode cX5_costTo 24 = .ok (.invokestatic 67, 3) := by decide +kernel
theorem dX5_costTo_27 : decode cX5_costTo 27 = .ok (.goto 9, 3) := by decide +kernel
theorem dX5_costTo_30 : decode cX5_costTo 30 = .ok (.aload_n 0, 1) := by decide +kernel
theorem dX5_costTo_31 : decode cX5_costTo 31 = .ok (.getfield 21, 3) := by decide +kernel
theorem dX5_costTo_34 : decode cX5_costTo 34 = .ok (.iload_n 2, 1) := by decide +kernel
theorem dX5_costTo_35 : decode cX5_costTo 35 = .ok (.iaload, 1) := by decide +kernel
theorem dX5_costTo_36 : decode cX5_costTo 36 = .ok (.ireturn, 1) := by decide +kernel
theorem dX0_listShops_0 : decode cX0_listShops 0 = .ok (.aload_n 0, 1) := by decide +kernel
theorem dX0_listShops_1 : decode cX0_listShops 1 = .ok (.iconst 0, 1) := by decide +kernel
theorem dX0_listShops_2 : decode cX0_listShops 2 = .ok (.putfield 59, 3) := by decide +kernel
theorem dX0_listShops_5 : decode cX0_listShops 5 = .ok (.iconst 0, 1) := by decide +kernel
theorem dX0_listShops_6 : decode cX0_listShops 6 = .ok (.istore_n 3, 1) := by decide +kernel
theorem dX0_listShops_7 : decode cX0_listShops 7 = .ok (.iload_n 3, 1) := by decide +kernel
theorem dX0_listShops_8 : decode cX0_listShops 8 = .ok (.aload_n 0, 1) := by decide +kernel
theorem dX0_listShops_9 : decode cX0_listShops 9 = .ok (.getfield 41, 3) := by decide +kernel
theorem dX0_listShops_12 : decode cX0_listShops 12 = .ok (.getfield 102, 3) := by decide +kernel
theorem dX0_listShops_15 : decode cX0_listShops 15 = .ok (.if_icmp .ge 80, 3) := by decide +kernel
theorem dX0_listShops_18 : decode cX0_listShops 18 = .ok (.aload_n 0, 1) := by decide +kernel
theorem dX0_listShops_19 : decode cX0_listShops 19 = .ok (.getfield 59, 3) := by decide +kernel
theorem dX0_listShops_22 : decode cX0_listShops 22 = .ok (.iconst 3, 1) := by decide +kernel
theorem dX0_listShops_23 : decode cX0_listShops 23 = .ok (.if_icmp .ge 72, 3) := by decide +kernel
theorem dX0_listShops_26 : decode cX0_listShops 26 = .ok (.aload_n 1, 1) := by decide +kernel
theorem dX0_listShops_27 : decode cX0_listShops 27 = .ok (.getfield 105, 3) := by decide +kernel
theorem dX0_listShops_30 : decode cX0_listShops 30 = .ok (.iload_n 3, 1) := by decide +kernel
theorem dX0_listShops_31 : decode cX0_listShops 31 = .ok (.iaload, 1) := by decide +kernel
theorem dX0_listShops_32 : decode cX0_listShops 32 = .ok (.iload_n 2, 1) := by decide +kernel
theorem dX0_listShops_33 : decode cX0_listShops 33 = .ok (.if_icmp .ne 56, 3) := by decide +kernel
theorem dX0_listShops_36 : decode cX0_listShops 36 = .ok (.aload_n 0, 1) := by decide +kernel
theorem dX0_listShops_37 : decode cX0_listShops 37 = .ok (.getfield 9, 3) := by decide +kernel
theorem dX0_listShops_40 : decode cX0_listShops 40 = .ok (.aload_n 0, 1) := by decide +kernel
theorem dX0_listShops_41 : decode cX0_listShops 41 = .ok (.getfield 59, 3) := by decide +kernel
theorem dX0_listShops_44 : decode cX0_listShops 44 = .ok (.iload_n 3, 1) := by decide +kernel
theorem dX0_listShops_45 : decode cX0_listShops 45 = .ok (.iastore, 1) := by decide +kernel
theorem dX0_listShops_46 : decode cX0_listShops 46 = .ok (.aload_n 0, 1) := by decide +kernel
theorem dX0_listShops_47 : decode cX0_listShops 47 = .ok (.getfield 15, 3) := by decide +kernel
theorem dX0_listShops_50 : decode cX0_listShops 50 = .ok (.aload_n 0, 1) := by decide +kernel
theorem dX0_listShops_51 : decode cX0_listShops 51 = .ok (.getfield 59, 3) := by decide +kernel
theorem dX0_listShops_54 : decode cX0_listShops 54 = .ok (.aload_n 0, 1) := by decide +kernel
theorem dX0_listShops_55 : decode cX0_listShops 55 = .ok (.getfield 41, 3) := by decide +kernel
theorem dX0_listShops_58 : decode cX0_listShops 58 = .ok (.iload_n 2, 1) := by decide +kernel
theorem dX0_listShops_59 : decode cX0_listShops 59 = .ok (.iload_n 3, 1) := by decide +kernel
theorem dX0_listShops_60 : decode cX0_listShops 60 = .ok (.invokevirtual 108, 3) := by decide +kernel
theorem dX0_listShops_63 : decode cX0_listShops 63 = .ok (.iastore, 1) := by decide +kernel
theorem dX0_listShops_64 : decode cX0_listShops 64 = .ok (.aload_n 0, 1) := by decide +kernel
theorem dX0_listShops_65 : decode cX0_listShops 65 = .ok (.getfield 21, 3) := by decide +kernel
theorem dX0_listShops_68 : decode cX0_listShops 68 = .ok (.aload_n 0, 1) := by decide +kernel
theorem dX0_listShops_69 : decode cX0_listShops 69 = .ok (.getfield 59, 3) := by decide +kernel
theorem dX0_listShops_72 : decode cX0_listShops 72 = .ok (.aload_n 1, 1) := by decide +kernel
theorem dX0_listShops_73 : decode cX0_listShops 73 = .ok (.getfield 62, 3) := by decide +kernel
theorem dX0_listShops_76 : decode cX0_listShops 76 = .ok (.iload_n 3, 1) := by decide +kernel
theorem dX0_listShops_77 : decode cX0_listShops 77 = .ok (.iaload, 1) := by decide +kernel
theorem dX0_listShops_78 : decode cX0_listShops 78 = .ok (.iastore, 1) := by decide +kernel
theorem dX0_listShops_79 : decode cX0_listShops 79 = .ok (.aload_n 0, 1) := by decide +kernel
theorem dX0_listShops_80 : decode cX0_listShops 80 = .ok (.dup, 1) := by decide +kernel
theorem dX0_listShops_81 : decode cX0_listShops 81 = .ok (.getfield 59, 3) := by decide +kernel
theorem dX0_listShops_84 : decode cX0_listShops 84 = .ok (.iconst 1, 1) := by decide +kernel
theorem dX0_listShops_85 : decode cX0_listShops 85 = .ok (.iadd, 1) := by decide +kernel
theorem dX0_listShops_86 : decode cX0_listShops 86 = .ok (.putfield 59, 3) := by decide +kernel
theorem dX0_listShops_89 : decode cX0_listShops 89 = .ok (.iinc 3 1, 3) := by decide +kernel
theorem dX0_listShops_92 : decode cX0_listShops 92 = .ok (.goto (-85), 3) := by decide +kernel
theorem dX0_listShops_95 : decode cX0_listShops 95 = .ok (.return_, 1) := by decide +kernel
theorem dX4_whatIs_0 : decode cX4_whatIs 0 = .ok (.aload_n 0, 1) := by decide +kernel
theorem dX4_whatIs_1 : decode cX4_whatIs 1 = .ok (.getfield 9, 3) := by decide +kernel
theorem dX4_whatIs_4 : decode cX4_whatIs 4 = .ok (.iload_n 2, 1) := by decide +kernel
theorem dX4_whatIs_5 : decode cX4_whatIs 5 = .ok (.iaload, 1) := by decide +kernel
theorem dX4_whatIs_6 : decode cX4_whatIs 6 = .ok (.aload_n 0, 1) := by decide +kernel
theorem dX4_whatIs_7 : decode cX4_whatIs 7 = .ok (.getfield 22, 3) := by decide +kernel
theorem dX4_whatIs_10 : decode cX4_whatIs 10 = .ok (.getfield 56, 3) := by decide +kernel
theorem dX4_whatIs_13 : decode cX4_whatIs 13 = .ok (.iload_n 1, 1) := by decide +kernel
theorem dX4_whatIs_14 : decode cX4_whatIs 14 = .ok (.aaload, 1) := by decide +kernel
theorem dX4_whatIs_15 : decode cX4_whatIs 15 = .ok (.iload_n 2, 1) := by decide +kernel
theorem dX4_whatIs_16 : decode cX4_whatIs 16 = .ok (.iaload, 1) := by decide +kernel
theorem dX4_whatIs_17 : decode cX4_whatIs 17 = .ok (.iadd, 1) := by decide +kernel
theorem dX4_whatIs_18 : decode cX4_whatIs 18 = .ok (.ireturn, 1) := by decide +kernel
theorem dX4_isOpen_0 : decode cX4_isOpen 0 = .ok (.aload_n 0, 1) := by decide +kernel
theorem dX4_isOpen_1 : decode cX4_isOpen 1 = .ok (.getfield 15, 3) := by decide +kernel
theorem dX4_isOpen_4 : decode cX4_isOpen 4 = .ok (.iload_n 1, 1) := by decide +kernel
theorem dX4_isOpen_5 : decode cX4_isOpen 5 = .ok (.iaload, 1) := by decide +kernel
theorem dX4_isOpen_6 : decode cX4_isOpen 6 = .ok (.istore_n 2, 1) := by decide +kernel
theorem dX4_isOpen_7 : decode cX4_isOpen 7 = .ok (.aload_n 0, 1) := by decide +kernel
theorem dX4_isOpen_8 : decode cX4_isOpen 8 = .ok (.getfield 22, 3) := by decide +kernel
theorem dX4_isOpen_11 : decode cX4_isOpen 11 = .ok (.getfield 41, 3) := by decide +kernel
theorem dX4_isOpen_14 : decode cX4_isOpen 14 = .ok (.iload_n 2, 1) := by decide +kernel
theorem dX4_isOpen_15 : decode cX4_isOpen 15 = .ok (.iaload, 1) := by decide +kernel
theorem dX4_isOpen_16 : decode cX4_isOpen 16 = .ok (.iconst 4, 1) := by decide +kernel
theorem dX4_isOpen_17 : decode cX4_isOpen 17 = .ok (.if_icmp .ne 12, 3) := by decide +kernel
theorem dX4_isOpen_20 : decode cX4_isOpen 20 = .ok (.aload_n 0, 1) := by decide +kernel
theorem dX4_isOpen_21 : decode cX4_isOpen 21 = .ok (.getfield 18, 3) := by decide +kernel
theorem dX4_isOpen_24 : decode cX4_isOpen 24 = .ok (.iload_n 2, 1) := by decide +kernel
theorem dX4_isOpen_25 : decode cX4_isOpen 25 = .ok (.baload, 1) := by decide +kernel
theorem dX4_isOpen_26 : decode cX4_isOpen 26 = .ok (.ifCond .eq 7, 3) := by decide +kernel
theorem dX4_isOpen_29 : decode cX4_isOpen 29 = .ok (.iconst 1, 1) := by decide +kernel
theorem dX4_isOpen_30 : decode cX4_isOpen 30 = .ok (.goto 4, 3) := by decide +kernel
theorem dX4_isOpen_33 : decode cX4_isOpen 33 = .ok (.iconst 0, 1) := by decide +kernel
theorem dX4_isOpen_34 : decode cX4_isOpen 34 = .ok (.ireturn, 1) := by decide +kernel
theorem dX4_choice_0 : decode cX4_choice 0 = .ok (.iconst (-1), 1) := by decide +kernel
theorem dX4_choice_1 : decode cX4_choice 1 = .ok (.istore_n 3, 1) := by decide +kernel
theorem dX4_choice_2 : decode cX4_choice 2 = .ok (.aload_n 0, 1) := by decide +kernel
theorem dX4_choice_3 : decode cX4_choice 3 = .ok (.getfield 22, 3) := by decide +kernel
theorem dX4_choice_6 : decode cX4_choice 6 = .ok (.getfield 60, 3) := by decide +kernel
theorem dX4_choice_9 : decode cX4_choice 9 = .ok (.iload_n 1, 1) := by decide +kernel
theorem dX4_choice_10 : decode cX4_choice 10 = .ok (.iaload, 1) := by decide +kernel
theorem dX4_choice_11 : decode cX4_choice 11 = .ok (.iconst 1, 1) := by decide +kernel
theorem dX4_choice_12 : decode cX4_choice 12 = .ok (.iadd, 1) := by decide +kernel
theorem dX4_choice_13 : decode cX4_choice 13 = .ok (.istore 4, 2) := by decide +kernel
theorem dX4_choice_15 : decode cX4_choice 15 = .ok (.iconst 0, 1) := by decide +kernel
theorem dX4_choice_16 : decode cX4_choice 16 = .ok (.istore 5, 2) := by decide +kernel
theorem dX4_choice_18 : decode cX4_choice 18 = .ok (.iload 5, 2) := by decide +kernel
theorem dX4_choice_20 : decode cX4_choice 20 = .ok (.aload_n 0, 1) := by decide +kernel
theorem dX4_choice_21 : decode cX4_choice 21 = .ok (.getfield 22, 3) := by decide +kernel
theorem dX4_choice_24 : decode cX4_choice 24 = .ok (.getfield 26, 3) := by decide +kernel
theorem dX4_choice_27 : decode cX4_choice 27 = .ok (.if_icmp .ge 47, 3) := by decide +kernel
theorem dX4_choice_30 : decode cX4_choice 30 = .ok (.aload_n 0, 1) := by decide +kernel
theorem dX4_choice_31 : decode cX4_choice 31 = .ok (.iload_n 1, 1) := by decide +kernel
theorem dX4_choice_32 : decode cX4_choice 32 = .ok (.iload 5, 2) := by decide +kernel
theorem dX4_choice_34 : decode cX4_choice 34 = .ok (.invokevirtual 63, 3) := by decide +kernel
theorem dX4_choice_37 : decode cX4_choice 37 = .ok (.istore 6, 2) := by decide +kernel
theorem dX4_choice_39 : decode cX4_choice 39 = .ok (.iload 6, 2) := by decide +kernel
theorem dX4_choice_41 : decode cX4_choice 41 = .ok (.iload 4, 2) := by decide +kernel
theorem dX4_choice_43 : decode cX4_choice 43 = .ok (.if_icmp .ge 25, 3) := by decide +kernel
theorem dX4_choice_46 : decode cX4_choice 46 = .ok (.iload 5, 2) := by decide +kernel
theorem dX4_choice_48 : decode cX4_choice 48 = .ok (.iload_n 2, 1) := by decide +kernel
theorem dX4_choice_49 : decode cX4_choice 49 = .ok (.if_icmp .eq 19, 3) := by decide +kernel
theorem dX4_choice_52 : decode cX4_choice 52 = .ok (.aload_n 0, 1) := by decide +kernel
theorem dX4_choice_53 : decode cX4_choice 53 = .ok (.iload 5, 2) := by decide +kernel
theorem dX4_choice_55 : decode cX4_choice 55 = .ok (.invokevirtual 44, 3) := by decide +kernel
theorem dX4_choice_58 : decode cX4_choice 58 = .ok (.ifCond .eq 10, 3) := by decide +kernel
theorem dX4_choice_61 : decode cX4_choice 61 = .ok (.iload 5, 2) := by decide +kernel
theorem dX4_choice_63 : decode cX4_choice 63 = .ok (.istore_n 3, 1) := by decide +kernel
theorem dX4_choice_64 : decode cX4_choice 64 = .ok (.iload 6, 2) := by decide +kernel
theorem dX4_choice_66 : decode cX4_choice 66 = .ok (.istore 4, 2) := by decide +kernel
theorem dX4_choice_68 : decode cX4_choice 68 = .ok (.iinc 5 1, 3) := by decide +kernel
theorem dX4_choice_71 : decode cX4_choice 71 = .ok (.goto (-53), 3) := by decide +kernel
theorem dX4_choice_74 : decode cX4_choice 74 = .ok (.iload_n 3, 1) := by decide +kernel
theorem dX4_choice_75 : decode cX4_choice 75 = .ok (.ireturn, 1) := by decide +kernel
theorem dX4_profitOf_0 : decode cX4_profitOf 0 = .ok (.iconst 0, 1) := by decide +kernel
theorem dX4_profitOf_1 : decode cX4_profitOf 1 = .ok (.istore_n 2, 1) := by decide +kernel
theorem dX4_profitOf_2 : decode cX4_profitOf 2 = .ok (.iconst 0, 1) := by decide +kernel
theorem dX4_profitOf_3 : decode cX4_profitOf 3 = .ok (.istore_n 3, 1) := by decide +kernel
theorem dX4_profitOf_4 : decode cX4_profitOf 4 = .ok (.iload_n 3, 1) := by decide +kernel
theorem dX4_profitOf_5 : decode cX4_profitOf 5 = .ok (.aload_n 0, 1) := by decide +kernel
theorem dX4_profitOf_6 : decode cX4_profitOf 6 = .ok (.getfield 22, 3) := by decide +kernel
theorem dX4_profitOf_9 : decode cX4_profitOf 9 = .ok (.getfield 70, 3) := by decide +kernel
theorem dX4_profitOf_12 : decode cX4_profitOf 12 = .ok (.if_icmp .ge 65, 3) := by decide +kernel
theorem dX4_profitOf_15 : decode cX4_profitOf 15 = .ok (.aload_n 0, 1) := by decide +kernel
theorem dX4_profitOf_16 : decode cX4_profitOf 16 = .ok (.iload_n 3, 1) := by decide +kernel
theorem dX4_profitOf_17 : decode cX4_profitOf 17 = .ok (.iconst (-1), 1) := by decide +kernel
theorem dX4_profitOf_18 : decode cX4_profitOf 18 = .ok (.invokevirtual 67, 3) := by decide +kernel
theorem dX4_profitOf_21 : decode cX4_profitOf 21 = .ok (.istore 4, 2) := by decide +kernel
theorem dX4_profitOf_23 : decode cX4_profitOf 23 = .ok (.iload 4, 2) := by decide +kernel
theorem dX4_profitOf_25 : decode cX4_profitOf 25 = .ok (.iconst (-1), 1) := by decide +kernel
theorem dX4_profitOf_26 : decode cX4_profitOf 26 = .ok (.if_icmp .eq 45, 3) := by decide +kernel
theorem dX4_profitOf_29 : decode cX4_profitOf 29 = .ok (.aload_n 0, 1) := by decide +kernel
theorem dX4_profitOf_30 : decode cX4_profitOf 30 = .ok (.getfield 15, 3) := by decide +kernel
theorem dX4_profitOf_33 : decode cX4_profitOf 33 = .ok (.iload 4, 2) := by decide +kernel
theorem dX4_profitOf_35 : decode cX4_profitOf 35 = .ok (.iaload, 1) := by decide +kernel
theorem dX4_profitOf_36 : decode cX4_profitOf 36 = .ok (.iload_n 1, 1) := by decide +kernel
theorem dX4_profitOf_37 : decode cX4_profitOf 37 = .ok (.if_icmp .ne 34, 3) := by decide +kernel
theorem dX4_profitOf_40 : decode cX4_profitOf 40 = .ok (.iload_n 2, 1) := by decide +kernel
theorem dX4_profitOf_41 : decode cX4_profitOf 41 = .ok (.aload_n 0, 1) := by decide +kernel
theorem dX4_profitOf_42 : decode cX4_profitOf 42 = .ok (.getfield 22, 3) := by decide +kernel
theorem dX4_profitOf_45 : decode cX4_profitOf 45 = .ok (.getfield 73, 3) := by decide +kernel
theorem dX4_profitOf_48 : decode cX4_profitOf 48 = .ok (.iload_n 3, 1) := by decide +kernel
theorem dX4_profitOf_49 : decode cX4_profitOf 49 = .ok (.iaload, 1) := by decide +kernel
theorem dX4_profitOf_50 : decode cX4_profitOf 50 = .ok (.aload_n 0, 1) := by decide +kernel
theorem dX4_profitOf_51 : decode cX4_profitOf 51 = .ok (.getfield 9, 3) := by decide +kernel
theorem dX4_profitOf_54 : decode cX4_profitOf 54 = .ok (.iload 4, 2) := by decide +kernel
theorem dX4_profitOf_56 : decode cX4_profitOf 56 = .ok (.iaload, 1) := by decide +kernel
theorem dX4_profitOf_57 : decode cX4_profitOf 57 = .ok (.aload_n 0, 1) := by decide +kernel
theorem dX4_profitOf_58 : decode cX4_profitOf 58 = .ok (.getfield 22, 3) := by decide +kernel
theorem dX4_profitOf_61 : decode cX4_profitOf 61 = .ok (.iload_n 1, 1) := by decide +kernel
theorem dX4_profitOf_62 : decode cX4_profitOf 62 = .ok (.iload 4, 2) := by decide +kernel
theorem dX4_profitOf_64 : decode cX4_profitOf 64 = .ok (.invokevirtual 76, 3) := by decide +kernel
theorem dX4_profitOf_67 : decode cX4_profitOf 67 = .ok (.isub, 1) := by decide +kernel
theorem dX4_profitOf_68 : decode cX4_profitOf 68 = .ok (.imul, 1) := by decide +kernel
theorem dX4_profitOf_69 : decode cX4_profitOf 69 = .ok (.iadd, 1) := by decide +kernel
theorem dX4_profitOf_70 : decode cX4_profitOf 70 = .ok (.istore_n 2, 1) := by decide +kernel
theorem dX4_profitOf_71 : decode cX4_profitOf 71 = .ok (.iinc 3 1, 3) := by decide +kernel
theorem dX4_profitOf_74 : decode cX4_profitOf 74 = .ok (.goto (-70), 3) := by decide +kernel
theorem dX4_profitOf_77 : decode cX4_profitOf 77 = .ok (.iload_n 2, 1) := by decide +kernel
theorem dX4_profitOf_78 : decode cX4_profitOf 78 = .ok (.ireturn, 1) := by decide +kernel
theorem dX0_layOthers_0 : decode cX0_layOthers 0 = .ok (.iconst 0, 1) := by decide +kernel
theorem dX0_layOthers_1 : decode cX0_layOthers 1 = .ok (.istore_n 3, 1) := by decide +kernel
theorem dX0_layOthers_2 : decode cX0_layOthers 2 = .ok (.iload_n 3, 1) := by decide +kernel
theorem dX0_layOthers_3 : decode cX0_layOthers 3 = .ok (.aload_n 0, 1) := by decide +kernel
theorem dX0_layOthers_4 : decode cX0_layOthers 4 = .ok (.getfield 41, 3) := by decide +kernel
theorem dX0_layOthers_7 : decode cX0_layOthers 7 = .ok (.getfield 112, 3) := by decide +kernel
theorem dX0_layOthers_10 : decode cX0_layOthers 10 = .ok (.if_icmp .ge 129, 3) := by decide +kernel
theorem dX0_layOthers_13 : decode cX0_layOthers 13 = .ok (.aload_n 0, 1) := by decide +kernel
theorem dX0_layOthers_14 : decode cX0_layOthers 14 = .ok (.getfield 26, 3) := by decide +kernel
theorem dX0_layOthers_17 : decode cX0_layOthers 17 = .ok (.iconst 0, 1) := by decide +kernel
theorem dX0_layOthers_18 : decode cX0_layOthers 18 = .ok (.aaload, 1) := by decide +kernel
theorem dX0_layOthers_19 : decode cX0_layOthers 19 = .ok (.iload_n 3, 1) := by decide +kernel
theorem dX0_layOthers_20 : decode cX0_layOthers 20 = .ok (.aload_n 0, 1) := by decide +kernel
theorem dX0_layOthers_21 : decode cX0_layOthers 21 = .ok (.getfield 41, 3) := by decide +kernel
theorem dX0_layOthers_24 : decode cX0_layOthers 24 = .ok (.getfield 115, 3) := by decide +kernel
theorem dX0_layOthers_27 : decode cX0_layOthers 27 = .ok (.iload_n 3, 1) := by decide +kernel
theorem dX0_layOthers_28 : decode cX0_layOthers 28 = .ok (.iaload, 1) := by decide +kernel
theorem dX0_layOthers_29 : decode cX0_layOthers 29 = .ok (.iconst 1, 1) := by decide +kernel
theorem dX0_layOthers_30 : decode cX0_layOthers 30 = .ok (.iadd, 1) := by decide +kernel
theorem dX0_layOthers_31 : decode cX0_layOthers 31 = .ok (.iastore, 1) := by decide +kernel
theorem dX0_layOthers_32 : decode cX0_layOthers 32 = .ok (.aload_n 0, 1) := by decide +kernel
theorem dX0_layOthers_33 : decode cX0_layOthers 33 = .ok (.getfield 29, 3) := by decide +kernel
theorem dX0_layOthers_36 : decode cX0_layOthers 36 = .ok (.iconst 0, 1) := by decide +kernel
theorem dX0_layOthers_37 : decode cX0_layOthers 37 = .ok (.aaload, 1) := by decide +kernel
theorem dX0_layOthers_38 : decode cX0_layOthers 38 = .ok (.iload_n 3, 1) := by decide +kernel
theorem dX0_layOthers_39 : decode cX0_layOthers 39 = .ok (.iconst (-1), 1) := by decide +kernel
theorem dX0_layOthers_40 : decode cX0_layOthers 40 = .ok (.iastore, 1) := by decide +kernel
theorem dX0_layOthers_41 : decode cX0_layOthers 41 = .ok (.aload_n 0, 1) := by decide +kernel
theorem dX0_layOthers_42 : decode cX0_layOthers 42 = .ok (.getfield 32, 3) := by decide +kernel
theorem dX0_layOthers_45 : decode cX0_layOthers 45 = .ok (.iconst 0, 1) := by decide +kernel
theorem dX0_layOthers_46 : decode cX0_layOthers 46 = .ok (.aaload, 1) := by decide +kernel
theorem dX0_layOthers_47 : decode cX0_layOthers 47 = .ok (.iload_n 3, 1) := by decide +kernel
theorem dX0_layOthers_48 : decode cX0_layOthers 48 = .ok (.iconst 0, 1) := by decide +kernel
theorem dX0_layOthers_49 : decode cX0_layOthers 49 = .ok (.iastore, 1) := by decide +kernel
theorem dX0_layOthers_50 : decode cX0_layOthers 50 = .ok (.iconst 0, 1) := by decide +kernel
theorem dX0_layOthers_51 : decode cX0_layOthers 51 = .ok (.istore 4, 2) := by decide +kernel
theorem dX0_layOthers_53 : decode cX0_layOthers 53 = .ok (.iload 4, 2) := by decide +kernel
theorem dX0_layOthers_55 : decode cX0_layOthers 55 = .ok (.aload_n 0, 1) := by decide +kernel
theorem dX0_layOthers_56 : decode cX0_layOthers 56 = .ok (.getfield 41, 3) := by decide +kernel
theorem dX0_layOthers_59 : decode cX0_layOthers 59 = .ok (.getfield 102, 3) := by decide +kernel
theorem dX0_layOthers_62 : decode cX0_layOthers 62 = .ok (.if_icmp .ge 71, 3) := by decide +kernel
theorem dX0_layOthers_65 : decode cX0_layOthers 65 = .ok (.aload_n 1, 1) := by decide +kernel
theorem dX0_layOthers_66 : decode cX0_layOthers 66 = .ok (.iload_n 3, 1) := by decide +kernel
theorem dX0_layOthers_67 : decode cX0_layOthers 67 = .ok (.iload 4, 2) := by decide +kernel
theorem dX0_layOthers_69 : decode cX0_layOthers 69 = .ok (.invokevirtual 118, 3) := by decide +kernel
theorem dX0_layOthers_72 : decode cX0_layOthers 72 = .ok (.istore 5, 2) := by decide +kernel
theorem dX0_layOthers_74 : decode cX0_layOthers 74 = .ok (.iload 5, 2) := by decide +kernel
theorem dX0_layOthers_76 : decode cX0_layOthers 76 = .ok (.aload_n 0, 1) := by decide +kernel
theorem dX0_layOthers_77 : decode cX0_layOthers 77 = .ok (.getfield 26, 3) := by decide +kernel
theorem dX0_layOthers_80 : decode cX0_layOthers 80 = .ok (.iconst 0, 1) := by decide +kernel
theorem dX0_layOthers_81 : decode cX0_layOthers 81 = .ok (.aaload, 1) := by decide +kernel
theorem dX0_layOthers_82 : decode cX0_layOthers 82 = .ok (.iload_n 3, 1) := by decide +kernel
theorem dX0_layOthers_83 : decode cX0_layOthers 83 = .ok (.iaload, 1) := by decide +kernel
theorem dX0_layOthers_84 : decode cX0_layOthers 84 = .ok (.if_icmp .ge 43, 3) := by decide +kernel
theorem dX0_layOthers_87 : decode cX0_layOthers 87 = .ok (.aload_n 1, 1) := by decide +kernel
theorem dX0_layOthers_88 : decode cX0_layOthers 88 = .ok (.getfield 105, 3) := by decide +kernel
theorem dX0_layOthers_91 : decode cX0_layOthers 91 = .ok (.iload 4, 2) := by decide +kernel
theorem dX0_layOthers_93 : decode cX0_layOthers 93 = .ok (.iaload, 1) := by decide +kernel
theorem dX0_layOthers_94 : decode cX0_layOthers 94 = .ok (.iload_n 2, 1) := by decide +kernel
theorem dX0_layOthers_95 : decode cX0_layOthers 95 = .ok (.if_icmp .eq 32, 3) := by decide +kernel
theorem dX0_layOthers_98 : decode cX0_layOthers 98 = .ok (.aload_n 1, 1) := by decide +kernel
theorem dX0_layOthers_99 : decode cX0_layOthers 99 = .ok (.iload 4, 2) := by decide +kernel
theorem dX0_layOthers_101 : decode cX0_layOthers 101 = .ok (.invokevirtual 121, 3) := by decide +kernel
theorem dX0_layOthers_104 : decode cX0_layOthers 104 = .ok (.ifCond .eq 23, 3) := by decide +kernel
theorem dX0_layOthers_107 : decode cX0_layOthers 107 = .ok (.aload_n 0, 1) := by decide +kernel
theorem dX0_layOthers_108 : decode cX0_layOthers 108 = .ok (.getfield 26, 3) := by decide +kernel
theorem dX0_layOthers_111 : decode cX0_layOthers 111 = .ok (.iconst 0, 1) := by decide +kernel
theorem dX0_layOthers_112 : decode cX0_layOthers 112 = .ok (.aaload, 1) := by decide +kernel
theorem dX0_layOthers_113 : decode cX0_layOthers 113 = .ok (.iload_n 3, 1) := by decide +kernel
theorem dX0_layOthers_114 : decode cX0_layOthers 114 = .ok (.iload 5, 2) := by decide +kernel
theorem dX0_layOthers_116 : decode cX0_layOthers 116 = .ok (.iastore, 1) := by decide +kernel
theorem dX0_layOthers_117 : decode cX0_layOthers 117 = .ok (.aload_n 0, 1) := by decide +kernel
theorem dX0_layOthers_118 : decode cX0_layOthers 118 = .ok (.getfield 29, 3) := by decide +kernel
theorem dX0_layOthers_121 : decode cX0_layOthers 121 = .ok (.iconst 0, 1) := by decide +kernel
theorem dX0_layOthers_122 : decode cX0_layOthers 122 = .ok (.aaload, 1) := by decide +kernel
theorem dX0_layOthers_123 : decode cX0_layOthers 123 = .ok (.iload_n 3, 1) := by decide +kernel
theorem dX0_layOthers_124 : decode cX0_layOthers 124 = .ok (.iload 4, 2) := by decide +kernel
theorem dX0_layOthers_126 : decode cX0_layOthers 126 = .ok (.iastore, 1) := by decide +kernel
theorem dX0_layOthers_127 : decode cX0_layOthers 127 = .ok (.iinc 4 1, 3) := by decide +kernel
theorem dX0_layOthers_130 : decode cX0_layOthers 130 = .ok (.goto (-77), 3) := by decide +kernel
theorem dX0_layOthers_133 : decode cX0_layOthers 133 = .ok (.iinc 3 1, 3) := by decide +kernel
theorem dX0_layOthers_136 : decode cX0_layOthers 136 = .ok (.goto (-134), 3) := by decide +kernel
theorem dX0_layOthers_139 : decode cX0_layOthers 139 = .ok (.return_, 1) := by decide +kernel
theorem dX0_highestFor_0 : decode cX0_highestFor 0 = .ok (.aload_n 0, 1) := by decide +kernel
theorem dX0_highestFor_1 : decode cX0_highestFor 1 = .ok (.getfield 9, 3) := by decide +kernel
theorem dX0_highestFor_4 : decode cX0_highestFor 4 = .ok (.iload_n 1, 1) := by decide +kernel
theorem dX0_highestFor_5 : decode cX0_highestFor 5 = .ok (.iaload, 1) := by decide +kernel
theorem dX0_highestFor_6 : decode cX0_highestFor 6 = .ok (.istore_n 3, 1) := by decide +kernel
theorem dX0_highestFor_7 : decode cX0_highestFor 7 = .ok (.aload_n 0, 1) := by decide +kernel
theorem dX0_highestFor_8 : decode cX0_highestFor 8 = .ok (.getfield 26, 3) := by decide +kernel
theorem dX0_highestFor_11 : decode cX0_highestFor 11 = .ok (.iload_n 1, 1) := by decide +kernel
theorem dX0_highestFor_12 : decode cX0_highestFor 12 = .ok (.aaload, 1) := by decide +kernel
theorem dX0_highestFor_13 : decode cX0_highestFor 13 = .ok (.iload_n 2, 1) := by decide +kernel
theorem dX0_highestFor_14 : decode cX0_highestFor 14 = .ok (.iaload, 1) := by decide +kernel
theorem dX0_highestFor_15 : decode cX0_highestFor 15 = .ok (.aload_n 0, 1) := by decide +kernel
theorem dX0_highestFor_16 : decode cX0_highestFor 16 = .ok (.getfield 41, 3) := by decide +kernel
theorem dX0_highestFor_19 : decode cX0_highestFor 19 = .ok (.getfield 141, 3) := by decide +kernel
theorem dX0_highestFor_22 : decode cX0_highestFor 22 = .ok (.iload_n 2, 1) := by decide +kernel
theorem dX0_highestFor_23 : decode cX0_highestFor 23 = .ok (.aaload, 1) := by decide +kernel
theorem dX0_highestFor_24 : decode cX0_highestFor 24 = .ok (.iload_n 3, 1) := by decide +kernel
theorem dX0_highestFor_25 : decode cX0_highestFor 25 = .ok (.iaload, 1) := by decide +kernel
theorem dX0_highestFor_26 : decode cX0_highestFor 26 = .ok (.isub, 1) := by decide +kernel
theorem dX0_highestFor_27 : decode cX0_highestFor 27 = .ok (.istore 4, 2) := by decide +kernel
theorem dX0_highestFor_29 : decode cX0_highestFor 29 = .ok (.iload_n 3, 1) := by decide +kernel
theorem dX0_highestFor_30 : decode cX0_highestFor 30 = .ok (.aload_n 0, 1) := by decide +kernel
theorem dX0_highestFor_31 : decode cX0_highestFor 31 = .ok (.getfield 29, 3) := by decide +kernel
theorem dX0_highestFor_34 : decode cX0_highestFor 34 = .ok (.iload_n 1, 1) := by decide +kernel
theorem dX0_highestFor_35 : decode cX0_highestFor 35 = .ok (.aaload, 1) := by decide +kernel
theorem dX0_highestFor_36 : decode cX0_highestFor 36 = .ok (.iload_n 2, 1) := by decide +kernel
theorem dX0_highestFor_37 : decode cX0_highestFor 37 = .ok (.iaload, 1) := by decide +kernel
theorem dX0_highestFor_38 : decode cX0_highestFor 38 = .ok (.if_icmp .ge 8, 3) := by decide +kernel
theorem dX0_highestFor_41 : decode cX0_highestFor 41 = .ok (.iload 4, 2) := by decide +kernel
theorem dX0_highestFor_43 : decode cX0_highestFor 43 = .ok (.goto 7, 3) := by decide +kernel
theorem dX0_highestFor_46 : decode cX0_highestFor 46 = .ok (.iload 4, 2) := by decide +kernel
theorem dX0_highestFor_48 : decode cX0_highestFor 48 = .ok (.iconst 1, 1) := by decide +kernel
theorem dX0_highestFor_49 : decode cX0_highestFor 49 = .ok (.isub, 1) := by decide +kernel
theorem dX0_highestFor_50 : decode cX0_highestFor 50 = .ok (.ireturn, 1) := by decide +kernel
theorem dX0_putPrice_0 : decode cX0_putPrice 0 = .ok (.aload_n 0, 1) := by decide +kernel
theorem dX0_putPrice_1 : decode cX0_putPrice 1 = .ok (.getfield 18, 3) := by decide +kernel
theorem dX0_putPrice_4 : decode cX0_putPrice 4 = .ok (.iload_n 1, 1) := by decide +kernel
theorem dX0_putPrice_5 : decode cX0_putPrice 5 = .ok (.iload_n 2, 1) := by decide +kernel
theorem dX0_putPrice_6 : decode cX0_putPrice 6 = .ok (.iastore, 1) := by decide +kernel
theorem dX0_putPrice_7 : decode cX0_putPrice 7 = .ok (.aload_n 0, 1) := by decide +kernel
theorem dX0_putPrice_8 : decode cX0_putPrice 8 = .ok (.getfield 9, 3) := by decide +kernel
theorem dX0_putPrice_11 : decode cX0_putPrice 11 = .ok (.iload_n 1, 1) := by decide +kernel
theorem dX0_putPrice_12 : decode cX0_putPrice 12 = .ok (.iaload, 1) := by decide +kernel
theorem dX0_putPrice_13 : decode cX0_putPrice 13 = .ok (.istore_n 3, 1) := by decide +kernel
theorem dX0_putPrice_14 : decode cX0_putPrice 14 = .ok (.iconst 0, 1) := by decide +kernel
theorem dX0_putPrice_15 : decode cX0_putPrice 15 = .ok (.istore 4, 2) := by decide +kernel
theorem dX0_putPrice_17 : decode cX0_putPrice 17 = .ok (.iload 4, 2) := by decide +kernel
theorem dX0_putPrice_19 : decode cX0_putPrice 19 = .ok (.aload_n 0, 1) := by decide +kernel
theorem dX0_putPrice_20 : decode cX0_putPrice 20 = .ok (.getfield 41, 3) := by decide +kernel
theorem dX0_putPrice_23 : decode cX0_putPrice 23 = .ok (.getfield 112, 3) := by decide +kernel
theorem dX0_putPrice_26 : decode cX0_putPrice 26 = .ok (.if_icmp .ge 134, 3) := by decide +kernel
theorem dX0_putPrice_29 : decode cX0_putPrice 29 = .ok (.iload_n 2, 1) := by decide +kernel
theorem dX0_putPrice_30 : decode cX0_putPrice 30 = .ok (.aload_n 0, 1) := by decide +kernel
theorem dX0_putPrice_31 : decode cX0_putPrice 31 = .ok (.iload_n 1, 1) := by decide +kernel
theorem dX0_putPrice_32 : decode cX0_putPrice 32 = .ok (.iload 4, 2) := by decide +kernel
theorem dX0_putPrice_34 : decode cX0_putPrice 34 = .ok (.invokevirtual 138, 3) := by decide +kernel
theorem dX0_putPrice_37 : decode cX0_putPrice 37 = .ok (.if_icmp .gt 7, 3) := by decide +kernel
theorem dX0_putPrice_40 : decode cX0_putPrice 40 = .ok (.iconst 1, 1) := by decide +kernel
theorem dX0_putPrice_41 : decode cX0_putPrice 41 = .ok (.goto 4, 3) := by decide +kernel
theorem dX0_putPrice_44 : decode cX0_putPrice 44 = .ok (.iconst 0, 1) := by decide +kernel
theorem dX0_putPrice_45 : decode cX0_putPrice 45 = .ok (.istore 5, 2) := by decide +kernel
theorem dX0_putPrice_47 : decode cX0_putPrice 47 = .ok (.aload_n 0, 1) := by decide +kernel
theorem dX0_putPrice_48 : decode cX0_putPrice 48 = .ok (.getfield 26, 3) := by decide +kernel
theorem dX0_putPrice_51 : decode cX0_putPrice 51 = .ok (.iload_n 1, 1) := by decide +kernel
theorem dX0_putPrice_52 : decode cX0_putPrice 52 = .ok (.iconst 1, 1) := by decide +kernel
theorem dX0_putPrice_53 : decode cX0_putPrice 53 = .ok (.iadd, 1) := by decide +kernel
theorem dX0_putPrice_54 : decode cX0_putPrice 54 = .ok (.aaload, 1) := by decide +kernel
theorem dX0_putPrice_55 : decode cX0_putPrice 55 = .ok (.iload 4, 2) := by decide +kernel
theorem dX0_putPrice_57 : decode cX0_putPrice 57 = .ok (.iload 5, 2) := by decide +kernel
theorem dX0_putPrice_59 : decode cX0_putPrice 59 = .ok (.ifCond .eq 20, 3) := by decide +kernel
theorem dX0_putPrice_62 : decode cX0_putPrice 62 = .ok (.iload_n 2, 1) := by decide +kernel
theorem dX0_putPrice_63 : decode cX0_putPrice 63 = .ok (.aload_n 0, 1) := by decide +kernel
theorem dX0_putPrice_64 : decode cX0_putPrice 64 = .ok (.getfield 41, 3) := by decide +kernel
theorem dX0_putPrice_67 : decode cX0_putPrice 67 = .ok (.getfield 141, 3) := by decide +kernel
theorem dX0_putPrice_70 : decode cX0_putPrice 70 = .ok (.iload 4, 2) := by decide +kernel
theorem dX0_putPrice_72 : decode cX0_putPrice 72 = .ok (.aaload, 1) := by decide +kernel
theorem dX0_putPrice_73 : decode cX0_putPrice 73 = .ok (.iload_n 3, 1) := by decide +kernel
theorem dX0_putPrice_74 : decode cX0_putPrice 74 = .ok (.iaload, 1) := by decide +kernel
theorem dX0_putPrice_75 : decode cX0_putPrice 75 = .ok (.iadd, 1) := by decide +kernel
theorem dX0_putPrice_76 : decode cX0_putPrice 76 = .ok (.goto 12, 3) := by decide +kernel
theorem dX0_putPrice_79 : decode cX0_putPrice 79 = .ok (.aload_n 0, 1) := by decide +kernel
theorem dX0_putPrice_80 : decode cX0_putPrice 80 = .ok (.getfield 26, 3) := by decide +kernel
theorem dX0_putPrice_83 : decode cX0_putPrice 83 = .ok (.iload_n 1, 1) := by decide +kernel
theorem dX0_putPrice_84 : decode cX0_putPrice 84 = .ok (.aaload, 1) := by decide +kernel
theorem dX0_putPrice_85 : decode cX0_putPrice 85 = .ok (.iload 4, 2) := by decide +kernel
theorem dX0_putPrice_87 : decode cX0_putPrice 87 = .ok (.iaload, 1) := by decide +kernel
theorem dX0_putPrice_88 : decode cX0_putPrice 88 = .ok (.iastore, 1) := by decide +kernel
theorem dX0_putPrice_89 : decode cX0_putPrice 89 = .ok (.aload_n 0, 1) := by decide +kernel
theorem dX0_putPrice_90 : decode cX0_putPrice 90 = .ok (.getfield 29, 3) := by decide +kernel
theorem dX0_putPrice_93 : decode cX0_putPrice 93 = .ok (.iload_n 1, 1) := by decide +kernel
theorem dX0_putPrice_94 : decode cX0_putPrice 94 = .ok (.iconst 1, 1) := by decide +kernel
theorem dX0_putPrice_95 : decode cX0_putPrice 95 = .ok (.iadd, 1) := by decide +kernel
theorem dX0_putPrice_96 : decode cX0_putPrice 96 = .ok (.aaload, 1) := by decide +kernel
theorem dX0_putPrice_97 : decode cX0_putPrice 97 = .ok (.iload 4, 2) := by decide +kernel
theorem dX0_putPrice_99 : decode cX0_putPrice 99 = .ok (.iload 5, 2) := by decide +kernel
theorem dX0_putPrice_101 : decode cX0_putPrice 101 = .ok (.ifCond .eq 7, 3) := by decide +kernel
theorem dX0_putPrice_104 : decode cX0_putPrice 104 = .ok (.iload_n 3, 1) := by decide +kernel
theorem dX0_putPrice_105 : decode cX0_putPrice 105 = .ok (.goto 12, 3) := by decide +kernel
theorem dX0_putPrice_108 : decode cX0_putPrice 108 = .ok (.aload_n 0, 1) := by decide +kernel
theorem dX0_putPrice_109 : decode cX0_putPrice 109 = .ok (.getfield 29, 3) := by decide +kernel
theorem dX0_putPrice_112 : decode cX0_putPrice 112 = .ok (.iload_n 1, 1) := by decide +kernel
theorem dX0_putPrice_113 : decode cX0_putPrice 113 = .ok (.aaload, 1) := by decide +kernel
theorem dX0_putPrice_114 : decode cX0_putPrice 114 = .ok (.iload 4, 2) := by decide +kernel
theorem dX0_putPrice_116 : decode cX0_putPrice 116 = .ok (.iaload, 1) := by decide +kernel
theorem dX0_putPrice_117 : decode cX0_putPrice 117 = .ok (.iastore, 1) := by decide +kernel
theorem dX0_putPrice_118 : decode cX0_putPrice 118 = .ok (.aload_n 0, 1) := by decide +kernel
theorem dX0_putPrice_119 : decode cX0_putPrice 119 = .ok (.getfield 32, 3) := by decide +kernel
theorem dX0_putPrice_122 : decode cX0_putPrice 122 = .ok (.iload_n 1, 1) := by decide +kernel
theorem dX0_putPrice_123 : decode cX0_putPrice 123 = .ok (.iconst 1, 1) := by decide +kernel
theorem dX0_putPrice_124 : decode cX0_putPrice 124 = .ok (.iadd, 1) := by decide +kernel
theorem dX0_putPrice_125 : decode cX0_putPrice 125 = .ok (.aaload, 1) := by decide +kernel
theorem dX0_putPrice_126 : decode cX0_putPrice 126 = .ok (.iload 4, 2) := by decide +kernel
theorem dX0_putPrice_128 : decode cX0_putPrice 128 = .ok (.iload 5, 2) := by decide +kernel
theorem dX0_putPrice_130 : decode cX0_putPrice 130 = .ok (.ifCond .eq 14, 3) := by decide +kernel
theorem dX0_putPrice_133 : decode cX0_putPrice 133 = .ok (.iload_n 2, 1) := by decide +kernel
theorem dX0_putPrice_134 : decode cX0_putPrice 134 = .ok (.aload_n 0, 1) := by decide +kernel
theorem dX0_putPrice_135 : decode cX0_putPrice 135 = .ok (.getfield 15, 3) := by decide +kernel
theorem dX0_putPrice_138 : decode cX0_putPrice 138 = .ok (.iload_n 1, 1) := by decide +kernel
theorem dX0_putPrice_139 : decode cX0_putPrice 139 = .ok (.iaload, 1) := by decide +kernel
theorem dX0_putPrice_140 : decode cX0_putPrice 140 = .ok (.isub, 1) := by decide +kernel
theorem dX0_putPrice_141 : decode cX0_putPrice 141 = .ok (.goto 12, 3) := by decide +kernel
theorem dX0_putPrice_144 : decode cX0_putPrice 144 = .ok (.aload_n 0, 1) := by decide +kernel
theorem dX0_putPrice_145 : decode cX0_putPrice 145 = .ok (.getfield 32, 3) := by decide +kernel
theorem dX0_putPrice_148 : decode cX0_putPrice 148 = .ok (.iload_n 1, 1) := by decide +kernel
theorem dX0_putPrice_149 : decode cX0_putPrice 149 = .ok (.aaload, 1) := by decide +kernel
theorem dX0_putPrice_150 : decode cX0_putPrice 150 = .ok (.iload 4, 2) := by decide +kernel
theorem dX0_putPrice_152 : decode cX0_putPrice 152 = .ok (.iaload, 1) := by decide +kernel
theorem dX0_putPrice_153 : decode cX0_putPrice 153 = .ok (.iastore, 1) := by decide +kernel
theorem dX0_putPrice_154 : decode cX0_putPrice 154 = .ok (.iinc 4 1, 3) := by decide +kernel
theorem dX0_putPrice_157 : decode cX0_putPrice 157 = .ok (.goto (-140), 3) := by decide +kernel
theorem dX0_putPrice_160 : decode cX0_putPrice 160 = .ok (.return_, 1) := by decide +kernel
theorem dX0_keepIfBetter_0 : decode cX0_keepIfBetter 0 = .ok (.iload_n 1, 1) := by decide +kernel
theorem dX0_keepIfBetter_1 : decode cX0_keepIfBetter 1 = .ok (.aload_n 0, 1) := by decide +kernel
theorem dX0_keepIfBetter_2 : decode cX0_keepIfBetter 2 = .ok (.getfield 85, 3) := by decide +kernel
theorem dX0_keepIfBetter_5 : decode cX0_keepIfBetter 5 = .ok (.if_icmp .le 36, 3) := by decide +kernel
theorem dX0_keepIfBetter_8 : decode cX0_keepIfBetter 8 = .ok (.aload_n 0, 1) := by decide +kernel
theorem dX0_keepIfBetter_9 : decode cX0_keepIfBetter 9 = .ok (.iload_n 1, 1) := by decide +kernel
theorem dX0_keepIfBetter_10 : decode cX0_keepIfBetter 10 = .ok (.putfield 85, 3) := by decide +kernel
theorem dX0_keepIfBetter_13 : decode cX0_keepIfBetter 13 = .ok (.iconst 0, 1) := by decide +kernel
theorem dX0_keepIfBetter_14 : decode cX0_keepIfBetter 14 = .ok (.istore_n 2, 1) := by decide +kernel
theorem dX0_keepIfBetter_15 : decode cX0_keepIfBetter 15 = .ok (.iload_n 2, 1) := by decide +kernel
theorem dX0_keepIfBetter_16 : decode cX0_keepIfBetter 16 = .ok (.aload_n 0, 1) := by decide +kernel
theorem dX0_keepIfBetter_17 : decode cX0_keepIfBetter 17 = .ok (.getfield 59, 3) := by decide +kernel
theorem dX0_keepIfBetter_20 : decode cX0_keepIfBetter 20 = .ok (.if_icmp .ge 21, 3) := by decide +kernel
theorem dX0_keepIfBetter_23 : decode cX0_keepIfBetter 23 = .ok (.aload_n 0, 1) := by decide +kernel
theorem dX0_keepIfBetter_24 : decode cX0_keepIfBetter 24 = .ok (.getfield 21, 3) := by decide +kernel
theorem dX0_keepIfBetter_27 : decode cX0_keepIfBetter 27 = .ok (.iload_n 2, 1) := by decide +kernel
theorem dX0_keepIfBetter_28 : decode cX0_keepIfBetter 28 = .ok (.aload_n 0, 1) := by decide +kernel
theorem dX0_keepIfBetter_29 : decode cX0_keepIfBetter 29 = .ok (.getfield 18, 3) := by decide +kernel
theorem dX0_keepIfBetter_32 : decode cX0_keepIfBetter 32 = .ok (.iload_n 2, 1) := by decide +kernel
theorem dX0_keepIfBetter_33 : decode cX0_keepIfBetter 33 = .ok (.iaload, 1) := by decide +kernel
theorem dX0_keepIfBetter_34 : decode cX0_keepIfBetter 34 = .ok (.iastore, 1) := by decide +kernel
theorem dX0_keepIfBetter_35 : decode cX0_keepIfBetter 35 = .ok (.iinc 2 1, 3) := by decide +kernel
theorem dX0_keepIfBetter_38 : decode cX0_keepIfBetter 38 = .ok (.goto (-23), 3) := by decide +kernel
theorem dX0_keepIfBetter_41 : decode cX0_keepIfBetter 41 = .ok (.return_, 1) := by decide +kernel
theorem dX0_tryOnePrice_0 : decode cX0_tryOnePrice 0 = .ok (.iconst 0, 1) := by decide +kernel
theorem dX0_tryOnePrice_1 : decode cX0_tryOnePrice 1 = .ok (.istore_n 1, 1) := by decide +kernel
theorem dX0_tryOnePrice_2 : decode cX0_tryOnePrice 2 = .ok (.iload_n 1, 1) := by decide +kernel
theorem dX0_tryOnePrice_3 : decode cX0_tryOnePrice 3 = .ok (.bipush 9, 2) := by decide +kernel
theorem dX0_tryOnePrice_5 : decode cX0_tryOnePrice 5 = .ok (.if_icmp .gt 81, 3) := by decide +kernel
theorem dX0_tryOnePrice_8 : decode cX0_tryOnePrice 8 = .ok (.iconst 0, 1) := by decide +kernel
theorem dX0_tryOnePrice_9 : decode cX0_tryOnePrice 9 = .ok (.istore_n 2, 1) := by decide +kernel
theorem dX0_tryOnePrice_10 : decode cX0_tryOnePrice 10 = .ok (.iload_n 2, 1) := by decide +kernel
theorem dX0_tryOnePrice_11 : decode cX0_tryOnePrice 11 = .ok (.aload_n 0, 1) := by decide +kernel
theorem dX0_tryOnePrice_12 : decode cX0_tryOnePrice 12 = .ok (.getfield 59, 3) := by decide +kernel
theorem dX0_tryOnePrice_15 : decode cX0_tryOnePrice 15 = .ok (.if_icmp .ge 15, 3) := by decide +kernel
theorem dX0_tryOnePrice_18 : decode cX0_tryOnePrice 18 = .ok (.aload_n 0, 1) := by decide +kernel
theorem dX0_tryOnePrice_19 : decode cX0_tryOnePrice 19 = .ok (.iload_n 2, 1) := by decide +kernel
theorem dX0_tryOnePrice_20 : decode cX0_tryOnePrice 20 = .ok (.iload_n 1, 1) := by decide +kernel
theorem dX0_tryOnePrice_21 : decode cX0_tryOnePrice 21 = .ok (.invokevirtual 125, 3) := by decide +kernel
theorem dX0_tryOnePrice_24 : decode cX0_tryOnePrice 24 = .ok (.iinc 2 1, 3) := by decide +kernel
theorem dX0_tryOnePrice_27 : decode cX0_tryOnePrice 27 = .ok (.goto (-17), 3) := by decide +kernel
theorem dX0_tryOnePrice_30 : decode cX0_tryOnePrice 30 = .ok (.iconst 0, 1) := by decide +kernel
theorem dX0_tryOnePrice_31 : decode cX0_tryOnePrice 31 = .ok (.istore_n 2, 1) := by decide +kernel
theorem dX0_tryOnePrice_32 : decode cX0_tryOnePrice 32 = .ok (.iconst 0, 1) := by decide +kernel
theorem dX0_tryOnePrice_33 : decode cX0_tryOnePrice 33 = .ok (.istore_n 3, 1) := by decide +kernel
theorem dX0_tryOnePrice_34 : decode cX0_tryOnePrice 34 = .ok (.iload_n 3, 1) := by decide +kernel
theorem dX0_tryOnePrice_35 : decode cX0_tryOnePrice 35 = .ok (.aload_n 0, 1) := by decide +kernel
theorem dX0_tryOnePrice_36 : decode cX0_tryOnePrice 36 = .ok (.getfield 41, 3) := by decide +kernel
theorem dX0_tryOnePrice_39 : decode cX0_tryOnePrice 39 = .ok (.getfield 112, 3) := by decide +kernel
theorem dX0_tryOnePrice_42 : decode cX0_tryOnePrice 42 = .ok (.if_icmp .ge 33, 3) := by decide +kernel
theorem dX0_tryOnePrice_45 : decode cX0_tryOnePrice 45 = .ok (.iload_n 2, 1) := by decide +kernel
theorem dX0_tryOnePrice_46 : decode cX0_tryOnePrice 46 = .ok (.aload_n 0, 1) := by decide +kernel
theorem dX0_tryOnePrice_47 : decode cX0_tryOnePrice 47 = .ok (.getfield 41, 3) := by decide +kernel
theorem dX0_tryOnePrice_50 : decode cX0_tryOnePrice 50 = .ok (.getfield 129, 3) := by decide +kernel
theorem dX0_tryOnePrice_53 : decode cX0_tryOnePrice 53 = .ok (.iload_n 3, 1) := by decide +kernel
theorem dX0_tryOnePrice_54 : decode cX0_tryOnePrice 54 = .ok (.iaload, 1) := by decide +kernel
theorem dX0_tryOnePrice_55 : decode cX0_tryOnePrice 55 = .ok (.aload_n 0, 1) := by decide +kernel
theorem dX0_tryOnePrice_56 : decode cX0_tryOnePrice 56 = .ok (.getfield 32, 3) := by decide +kernel
theorem dX0_tryOnePrice_59 : decode cX0_tryOnePrice 59 = .ok (.aload_n 0, 1) := by decide +kernel
theorem dX0_tryOnePrice_60 : decode cX0_tryOnePrice 60 = .ok (.getfield 59, 3) := by decide +kernel
theorem dX0_tryOnePrice_63 : decode cX0_tryOnePrice 63 = .ok (.aaload, 1) := by decide +kernel
theorem dX0_tryOnePrice_64 : decode cX0_tryOnePrice 64 = .ok (.iload_n 3, 1) := by decide +kernel
theorem dX0_tryOnePrice_65 : decode cX0_tryOnePrice 65 = .ok (.iaload, 1) := by decide +kernel
theorem dX0_tryOnePrice_66 : decode cX0_tryOnePrice 66 = .ok (.imul, 1) := by decide +kernel
theorem dX0_tryOnePrice_67 : decode cX0_tryOnePrice 67 = .ok (.iadd, 1) := by decide +kernel
theorem dX0_tryOnePrice_68 : decode cX0_tryOnePrice 68 = .ok (.istore_n 2, 1) := by decide +kernel
theorem dX0_tryOnePrice_69 : decode cX0_tryOnePrice 69 = .ok (.iinc 3 1, 3) := by decide +kernel
theorem dX0_tryOnePrice_72 : decode cX0_tryOnePrice 72 = .ok (.goto (-38), 3) := by decide +kernel
theorem dX0_tryOnePrice_75 : decode cX0_tryOnePrice 75 = .ok (.aload_n 0, 1) := by decide +kernel
theorem dX0_tryOnePrice_76 : decode cX0_tryOnePrice 76 = .ok (.iload_n 2, 1) := by decide +kernel
theorem dX0_tryOnePrice_77 : decode cX0_tryOnePrice 77 = .ok (.invokevirtual 132, 3) := by decide +kernel
theorem dX0_tryOnePrice_80 : decode cX0_tryOnePrice 80 = .ok (.iinc 1 1, 3) := by decide +kernel
theorem dX0_tryOnePrice_83 : decode cX0_tryOnePrice 83 = .ok (.goto (-81), 3) := by decide +kernel
theorem dX0_tryOnePrice_86 : decode cX0_tryOnePrice 86 = .ok (.return_, 1) := by decide +kernel
theorem dJ9_min_7cf53_0 : decode cJ9_min_7cf53 0 = .ok (.iload_n 0, 1) := by decide +kernel
theorem dJ9_min_7cf53_1 : decode cJ9_min_7cf53 1 = .ok (.iload_n 1, 1) := by decide +kernel
theorem dJ9_min_7cf53_2 : decode cJ9_min_7cf53 2 = .ok (.if_icmp .gt 7, 3) := by decide +kernel
theorem dJ9_min_7cf53_5 : decode cJ9_min_7cf53 5 = .ok (.iload_n 0, 1) := by decide +kernel
theorem dJ9_min_7cf53_6 : decode cJ9_min_7cf53 6 = .ok (.goto 4, 3) := by decide +kernel
theorem dJ9_min_7cf53_9 : decode cJ9_min_7cf53 9 = .ok (.iload_n 1, 1) := by decide +kernel
theorem dJ9_min_7cf53_10 : decode cJ9_min_7cf53 10 = .ok (.ireturn, 1) := by decide +kernel
theorem dX0_tryLastPrice_0 : decode cX0_tryLastPrice 0 = .ok (.iconst 0, 1) := by decide +kernel
theorem dX0_tryLastPrice_1 : decode cX0_tryLastPrice 1 = .ok (.istore_n 2, 1) := by decide +kernel
theorem dX0_tryLastPrice_2 : decode cX0_tryLastPrice 2 = .ok (.iload_n 2, 1) := by decide +kernel
theorem dX0_tryLastPrice_3 : decode cX0_tryLastPrice 3 = .ok (.bipush 9, 2) := by decide +kernel
theorem dX0_tryLastPrice_5 : decode cX0_tryLastPrice 5 = .ok (.if_icmp .gt 23, 3) := by decide +kernel
theorem dX0_tryLastPrice_8 : decode cX0_tryLastPrice 8 = .ok (.aload_n 0, 1) := by decide +kernel
theorem dX0_tryLastPrice_9 : decode cX0_tryLastPrice 9 = .ok (.getfield 35, 3) := by decide +kernel
theorem dX0_tryLastPrice_12 : decode cX0_tryLastPrice 12 = .ok (.iload_n 2, 1) := by decide +kernel
theorem dX0_tryLastPrice_13 : decode cX0_tryLastPrice 13 = .ok (.iconst 0, 1) := by decide +kernel
theorem dX0_tryLastPrice_14 : decode cX0_tryLastPrice 14 = .ok (.iastore, 1) := by decide +kernel
theorem dX0_tryLastPrice_15 : decode cX0_tryLastPrice 15 = .ok (.aload_n 0, 1) := by decide +kernel
theorem dX0_tryLastPrice_16 : decode cX0_tryLastPrice 16 = .ok (.getfield 38, 3) := by decide +kernel
theorem dX0_tryLastPrice_19 : decode cX0_tryLastPrice 19 = .ok (.iload_n 2, 1) := by decide +kernel
theorem dX0_tryLastPrice_20 : decode cX0_tryLastPrice 20 = .ok (.iconst 0, 1) := by decide +kernel
theorem dX0_tryLastPrice_21 : decode cX0_tryLastPrice 21 = .ok (.iastore, 1) := by decide +kernel
theorem dX0_tryLastPrice_22 : decode cX0_tryLastPrice 22 = .ok (.iinc 2 1, 3) := by decide +kernel
theorem dX0_tryLastPrice_25 : decode cX0_tryLastPrice 25 = .ok (.goto (-23), 3) := by decide +kernel
theorem dX0_tryLastPrice_28 : decode cX0_tryLastPrice 28 = .ok (.iconst 0, 1) := by decide +kernel
theorem dX0_tryLastPrice_29 : decode cX0_tryLastPrice 29 = .ok (.istore_n 2, 1) := by decide +kernel
theorem dX0_tryLastPrice_30 : decode cX0_tryLastPrice 30 = .ok (.iconst 0, 1) := by decide +kernel
theorem dX0_tryLastPrice_31 : decode cX0_tryLastPrice 31 = .ok (.istore_n 3, 1) := by decide +kernel
theorem dX0_tryLastPrice_32 : decode cX0_tryLastPrice 32 = .ok (.iconst 0, 1) := by decide +kernel
theorem dX0_tryLastPrice_33 : decode cX0_tryLastPrice 33 = .ok (.istore 4, 2) := by decide +kernel
theorem dX0_tryLastPrice_35 : decode cX0_tryLastPrice 35 = .ok (.iload 4, 2) := by decide +kernel
theorem dX0_tryLastPrice_37 : decode cX0_tryLastPrice 37 = .ok (.aload_n 0, 1) := by decide +kernel
theorem dX0_tryLastPrice_38 : decode cX0_tryLastPrice 38 = .ok (.getfield 41, 3) := by decide +kernel
theorem dX0_tryLastPrice_41 : decode cX0_tryLastPrice 41 = .ok (.getfield 112, 3) := by decide +kernel
theorem dX0_tryLastPrice_44 : decode cX0_tryLastPrice 44 = .ok (.if_icmp .ge 103, 3) := by decide +kernel
theorem dX0_tryLastPrice_47 : decode cX0_tryLastPrice 47 = .ok (.aload_n 0, 1) := by decide +kernel
theorem dX0_tryLastPrice_48 : decode cX0_tryLastPrice 48 = .ok (.getfield 41, 3) := by decide +kernel
theorem dX0_tryLastPrice_51 : decode cX0_tryLastPrice 51 = .ok (.getfield 129, 3) := by decide +kernel
theorem dX0_tryLastPrice_54 : decode cX0_tryLastPrice 54 = .ok (.iload 4, 2) := by decide +kernel
theorem dX0_tryLastPrice_56 : decode cX0_tryLastPrice 56 = .ok (.iaload, 1) := by decide +kernel
theorem dX0_tryLastPrice_57 : decode cX0_tryLastPrice 57 = .ok (.aload_n 0, 1) := by decide +kernel
theorem dX0_tryLastPrice_58 : decode cX0_tryLastPrice 58 = .ok (.getfield 32, 3) := by decide +kernel
theorem dX0_tryLastPrice_61 : decode cX0_tryLastPrice 61 = .ok (.iload_n 1, 1) := by decide +kernel
theorem dX0_tryLastPrice_62 : decode cX0_tryLastPrice 62 = .ok (.aaload, 1) := by decide +kernel
theorem dX0_tryLastPrice_63 : decode cX0_tryLastPrice 63 = .ok (.iload 4, 2) := by decide +kernel
theorem dX0_tryLastPrice_65 : decode cX0_tryLastPrice 65 = .ok (.iaload, 1) := by decide +kernel
theorem dX0_tryLastPrice_66 : decode cX0_tryLastPrice 66 = .ok (.imul, 1) := by decide +kernel
theorem dX0_tryLastPrice_67 : decode cX0_tryLastPrice 67 = .ok (.istore 5, 2) := by decide +kernel
theorem dX0_tryLastPrice_69 : decode cX0_tryLastPrice 69 = .ok (.bipush 9, 2) := by decide +kernel
theorem dX0_tryLastPrice_71 : decode cX0_tryLastPrice 71 = .ok (.aload_n 0, 1) := by decide +kernel
theorem dX0_tryLastPrice_72 : decode cX0_tryLastPrice 72 = .ok (.iload_n 1, 1) := by decide +kernel
theorem dX0_tryLastPrice_73 : decode cX0_tryLastPrice 73 = .ok (.iload 4, 2) := by decide +kernel
theorem dX0_tryLastPrice_75 : decode cX0_tryLastPrice 75 = .ok (.invokevirtual 138, 3) := by decide +kernel
theorem dX0_tryLastPrice_78 : decode cX0_tryLastPrice 78 = .ok (.invokestatic 144, 3) := by decide +kernel
theorem dX0_tryLastPrice_81 : decode cX0_tryLastPrice 81 = .ok (.istore 6, 2) := by decide +kernel
theorem dX0_tryLastPrice_83 : decode cX0_tryLastPrice 83 = .ok (.iload 6, 2) := by decide +kernel
theorem dX0_tryLastPrice_85 : decode cX0_tryLastPrice 85 = .ok (.ifCond .ge 11, 3) := by decide +kernel
theorem dX0_tryLastPrice_88 : decode cX0_tryLastPrice 88 = .ok (.iload_n 3, 1) := by decide +kernel
theorem dX0_tryLastPrice_89 : decode cX0_tryLastPrice 89 = .ok (.iload 5, 2) := by decide +kernel
theorem dX0_tryLastPrice_91 : decode cX0_tryLastPrice 91 = .ok (.iadd, 1) := by decide +kernel
theorem dX0_tryLastPrice_92 : decode cX0_tryLastPrice 92 = .ok (.istore_n 3, 1) := by decide +kernel
theorem dX0_tryLastPrice_93 : decode cX0_tryLastPrice 93 = .ok (.goto 48, 3) := by decide +kernel
theorem dX0_tryLastPrice_96 : decode cX0_tryLastPrice 96 = .ok (.iload_n 2, 1) := by decide +kernel
theorem dX0_tryLastPrice_97 : decode cX0_tryLastPrice 97 = .ok (.aload_n 0, 1) := by decide +kernel
theorem dX0_tryLastPrice_98 : decode cX0_tryLastPrice 98 = .ok (.getfield 41, 3) := by decide +kernel
theorem dX0_tryLastPrice_101 : decode cX0_tryLastPrice 101 = .ok (.getfield 129, 3) := by decide +kernel
theorem dX0_tryLastPrice_104 : decode cX0_tryLastPrice 104 = .ok (.iload 4, 2) := by decide +kernel
theorem dX0_tryLastPrice_106 : decode cX0_tryLastPrice 106 = .ok (.iaload, 1) := by decide +kernel
theorem dX0_tryLastPrice_107 : decode cX0_tryLastPrice 107 = .ok (.iadd, 1) := by decide +kernel
theorem dX0_tryLastPrice_108 : decode cX0_tryLastPrice 108 = .ok (.istore_n 2, 1) := by decide +kernel
theorem dX0_tryLastPrice_109 : decode cX0_tryLastPrice 109 = .ok (.aload_n 0, 1) := by decide +kernel
theorem dX0_tryLastPrice_110 : decode cX0_tryLastPrice 110 = .ok (.getfield 35, 3) := by decide +kernel
theorem dX0_tryLastPrice_113 : decode cX0_tryLastPrice 113 = .ok (.iload 6, 2) := by decide +kernel
theorem dX0_tryLastPrice_115 : decode cX0_tryLastPrice 115 = .ok (.dup2, 1) := by decide +kernel
theorem dX0_tryLastPrice_116 : decode cX0_tryLastPrice 116 = .ok (.iaload, 1) := by decide +kernel
theorem dX0_tryLastPrice_117 : decode cX0_tryLastPrice 117 = .ok (.aload_n 0, 1) := by decide +kernel
theorem dX0_tryLastPrice_118 : decode cX0_tryLastPrice 118 = .ok (.getfield 41, 3) := by decide +kernel
theorem dX0_tryLastPrice_121 : decode cX0_tryLastPrice 121 = .ok (.getfield 129, 3) := by decide +kernel
theorem dX0_tryLastPrice_124 : decode cX0_tryLastPrice 124 = .ok (.iload 4, 2) := by decide +kernel
theorem dX0_tryLastPrice_126 : decode cX0_tryLastPrice 126 = .ok (.iaload, 1) := by decide +kernel
theorem dX0_tryLastPrice_127 : decode cX0_tryLastPrice 127 = .ok (.iadd, 1) := by decide +kernel
theorem dX0_tryLastPrice_128 : decode cX0_tryLastPrice 128 = .ok (.iastore, 1) := by decide +kernel
theorem dX0_tryLastPrice_129 : decode cX0_tryLastPrice 129 = .ok (.aload_n 0, 1) := by decide +kernel
theorem dX0_tryLastPrice_130 : decode cX0_tryLastPrice 130 = .ok (.getfield 38, 3) := by decide +kernel
theorem dX0_tryLastPrice_133 : decode cX0_tryLastPrice 133 = .ok (.iload 6, 2) := by decide +kernel
theorem dX0_tryLastPrice_135 : decode cX0_tryLastPrice 135 = .ok (.dup2, 1) := by decide +kernel
theorem dX0_tryLastPrice_136 : decode cX0_tryLastPrice 136 = .ok (.iaload, 1) := by decide +kernel
theorem dX0_tryLastPrice_137 : decode cX0_tryLastPrice 137 = .ok (.iload 5, 2) := by decide +kernel
theorem dX0_tryLastPrice_139 : decode cX0_tryLastPrice 139 = .ok (.iadd, 1) := by decide +kernel
theorem dX0_tryLastPrice_140 : decode cX0_tryLastPrice 140 = .ok (.iastore, 1) := by decide +kernel
theorem dX0_tryLastPrice_141 : decode cX0_tryLastPrice 141 = .ok (.iinc 4 1, 3) := by decide +kernel
theorem dX0_tryLastPrice_144 : decode cX0_tryLastPrice 144 = .ok (.goto (-109), 3) := by decide +kernel
theorem dX0_tryLastPrice_147 : decode cX0_tryLastPrice 147 = .ok (.iconst 0, 1) := by decide +kernel
theorem dX0_tryLastPrice_148 : decode cX0_tryLastPrice 148 = .ok (.istore 4, 2) := by decide +kernel
theorem dX0_tryLastPrice_150 : decode cX0_tryLastPrice 150 = .ok (.iload 4, 2) := by decide +kernel
theorem dX0_tryLastPrice_152 : decode cX0_tryLastPrice 152 = .ok (.bipush 9, 2) := by decide +kernel
theorem dX0_tryLastPrice_154 : decode cX0_tryLastPrice 154 = .ok (.if_icmp .gt 54, 3) := by decide +kernel
theorem dX0_tryLastPrice_157 : decode cX0_tryLastPrice 157 = .ok (.aload_n 0, 1) := by decide +kernel
theorem dX0_tryLastPrice_158 : decode cX0_tryLastPrice 158 = .ok (.getfield 18, 3) := by decide +kernel
theorem dX0_tryLastPrice_161 : decode cX0_tryLastPrice 161 = .ok (.iload_n 1, 1) := by decide +kernel
theorem dX0_tryLastPrice_162 : decode cX0_tryLastPrice 162 = .ok (.iload 4, 2) := by decide +kernel
theorem dX0_tryLastPrice_164 : decode cX0_tryLastPrice 164 = .ok (.iastore, 1) := by decide +kernel
theorem dX0_tryLastPrice_165 : decode cX0_tryLastPrice 165 = .ok (.aload_n 0, 1) := by decide +kernel
theorem dX0_tryLastPrice_166 : decode cX0_tryLastPrice 166 = .ok (.iload_n 3, 1) := by decide +kernel
theorem dX0_tryLastPrice_167 : decode cX0_tryLastPrice 167 = .ok (.iload_n 2, 1) := by decide +kernel
theorem dX0_tryLastPrice_168 : decode cX0_tryLastPrice 168 = .ok (.iload 4, 2) := by decide +kernel
theorem dX0_tryLastPrice_170 : decode cX0_tryLastPrice 170 = .ok (.aload_n 0, 1) := by decide +kernel
theorem dX0_tryLastPrice_171 : decode cX0_tryLastPrice 171 = .ok (.getfield 15, 3) := by decide +kernel
theorem dX0_tryLastPrice_174 : decode cX0_tryLastPrice 174 = .ok (.iload_n 1, 1) := by decide +kernel
theorem dX0_tryLastPrice_175 : decode cX0_tryLastPrice 175 = .ok (.iaload, 1) := by decide +kernel
theorem dX0_tryLastPrice_176 : decode cX0_tryLastPrice 176 = .ok (.isub, 1) := by decide +kernel
theorem dX0_tryLastPrice_177 : decode cX0_tryLastPrice 177 = .ok (.imul, 1) := by decide +kernel
theorem dX0_tryLastPrice_178 : decode cX0_tryLastPrice 178 = .ok (.iadd, 1) := by decide +kernel
theorem dX0_tryLastPrice_179 : decode cX0_tryLastPrice 179 = .ok (.invokevirtual 132, 3) := by decide +kernel
theorem dX0_tryLastPrice_182 : decode cX0_tryLastPrice 182 = .ok (.iload_n 2, 1) := by decide +kernel
theorem dX0_tryLastPrice_183 : decode cX0_tryLastPrice 183 = .ok (.aload_n 0, 1) := by decide +kernel
theorem dX0_tryLastPrice_184 : decode cX0_tryLastPrice 184 = .ok (.getfield 35, 3) := by decide +kernel
theorem dX0_tryLastPrice_187 : decode cX0_tryLastPrice 187 = .ok (.iload 4, 2) := by decide +kernel
theorem dX0_tryLastPrice_189 : decode cX0_tryLastPrice 189 = .ok (.iaload, 1) := by decide +kernel
theorem dX0_tryLastPrice_190 : decode cX0_tryLastPrice 190 = .ok (.isub, 1) := by decide +kernel
theorem dX0_tryLastPrice_191 : decode cX0_tryLastPrice 191 = .ok (.istore_n 2, 1) := by decide +kernel
theorem dX0_tryLastPrice_192 : decode cX0_tryLastPrice 192 = .ok (.iload_n 3, 1) := by decide +kernel
theorem dX0_tryLastPrice_193 : decode cX0_tryLastPrice 193 = .ok (.aload_n 0, 1) := by decide +kernel
theorem dX0_tryLastPrice_194 : decode cX0_tryLastPrice 194 = .ok (.getfield 38, 3) := by decide +kernel
theorem dX0_tryLastPrice_197 : decode cX0_tryLastPrice 197 = .ok (.iload 4, 2) := by decide +kernel
theorem dX0_tryLastPrice_199 : decode cX0_tryLastPrice 199 = .ok (.iaload, 1) := by decide +kernel
theorem dX0_tryLastPrice_200 : decode cX0_tryLastPrice 200 = .ok (.iadd, 1) := by decide +kernel
theorem dX0_tryLastPrice_201 : decode cX0_tryLastPrice 201 = .ok (.istore_n 3, 1) := by decide +kernel
theorem dX0_tryLastPrice_202 : decode cX0_tryLastPrice 202 = .ok (.iinc 4 1, 3) := by decide +kernel
theorem dX0_tryLastPrice_205 : decode cX0_tryLastPrice 205 = .ok (.goto (-55), 3) := by decide +kernel
theorem dX0_tryLastPrice_208 : decode cX0_tryLastPrice 208 = .ok (.return_, 1) := by decide +kernel
theorem dX0_tryPrices_0 : decode cX0_tryPrices 0 = .ok (.iload_n 1, 1) := by decide +kernel
theorem dX0_tryPrices_1 : decode cX0_tryPrices 1 = .ok (.aload_n 0, 1) := by decide +kernel
theorem dX0_tryPrices_2 : decode cX0_tryPrices 2 = .ok (.getfield 59, 3) := by decide +kernel
theorem dX0_tryPrices_5 : decode cX0_tryPrices 5 = .ok (.iconst 1, 1) := by decide +kernel
theorem dX0_tryPrices_6 : decode cX0_tryPrices 6 = .ok (.isub, 1) := by decide +kernel
theorem dX0_tryPrices_7 : decode cX0_tryPrices 7 = .ok (.if_icmp .lt 14, 3) := by decide +kernel
theorem dX0_tryPrices_10 : decode cX0_tryPrices 10 = .ok (.aload_n 0, 1) := by decide +kernel
theorem dX0_tryPrices_11 : decode cX0_tryPrices 11 = .ok (.aload_n 0, 1) := by decide +kernel
theorem dX0_tryPrices_12 : decode cX0_tryPrices 12 = .ok (.getfield 59, 3) := by decide +kernel
theorem dX0_tryPrices_15 : decode cX0_tryPrices 15 = .ok (.iconst 1, 1) := by decide +kernel
theorem dX0_tryPrices_16 : decode cX0_tryPrices 16 = .ok (.isub, 1) := by decide +kernel
theorem dX0_tryPrices_17 : decode cX0_tryPrices 17 = .ok (.invokevirtual 135, 3) := by decide +kernel
theorem dX0_tryPrices_20 : decode cX0_tryPrices 20 = .ok (.return_, 1) := by decide +kernel
theorem dX0_tryPrices_21 : decode cX0_tryPrices 21 = .ok (.iconst 0, 1) := by decide +kernel
theorem dX0_tryPrices_22 : decode cX0_tryPrices 22 = .ok (.istore_n 2, 1) := by decide +kernel
theorem dX0_tryPrices_23 : decode cX0_tryPrices 23 = .ok (.iload_n 2, 1) := by decide +kernel
theorem dX0_tryPrices_24 : decode cX0_tryPrices 24 = .ok (.bipush 9, 2) := by decide +kernel
theorem dX0_tryPrices_26 : decode cX0_tryPrices 26 = .ok (.if_icmp .gt 22, 3) := by decide +kernel
theorem dX0_tryPrices_29 : decode cX0_tryPrices 29 = .ok (.aload_n 0, 1) := by decide +kernel
theorem dX0_tryPrices_30 : decode cX0_tryPrices 30 = .ok (.iload_n 1, 1) := by decide +kernel
theorem dX0_tryPrices_31 : decode cX0_tryPrices 31 = .ok (.iload_n 2, 1) := by decide +kernel
theorem dX0_tryPrices_32 : decode cX0_tryPrices 32 = .ok (.invokevirtual 125, 3) := by decide +kernel
theorem dX0_tryPrices_35 : decode cX0_tryPrices 35 = .ok (.aload_n 0, 1) := by decide +kernel
theorem dX0_tryPrices_36 : decode cX0_tryPrices 36 = .ok (.iload_n 1, 1) := by decide +kernel
theorem dX0_tryPrices_37 : decode cX0_tryPrices 37 = .ok (.iconst 1, 1) := by decide +kernel
theorem dX0_tryPrices_38 : decode cX0_tryPrices 38 = .ok (.iadd, 1) := by decide +kernel
theorem dX0_tryPrices_39 : decode cX0_tryPrices 39 = .ok (.invokevirtual 95, 3) := by decide +kernel
theorem dX0_tryPrices_42 : decode cX0_tryPrices 42 = .ok (.iinc 2 1, 3) := by decide +kernel
theorem dX0_tryPrices_45 : decode cX0_tryPrices 45 = .ok (.goto (-22), 3) := by decide +kernel
theorem dX0_tryPrices_48 : decode cX0_tryPrices 48 = .ok (.return_, 1) := by decide +kernel
theorem dX0_look_0 : decode cX0_look 0 = .ok (.aload_n 0, 1) := by decide +kernel
theorem dX0_look_1 : decode cX0_look 1 = .ok (.aload_n 1, 1) := by decide +kernel
theorem dX0_look_2 : decode cX0_look 2 = .ok (.iload_n 2, 1) := by decide +kernel
theorem dX0_look_3 : decode cX0_look 3 = .ok (.invokevirtual 75, 3) := by decide +kernel
theorem dX0_look_6 : decode cX0_look 6 = .ok (.aload_n 0, 1) := by decide +kernel
theorem dX0_look_7 : decode cX0_look 7 = .ok (.getfield 41, 3) := by decide +kernel
theorem dX0_look_10 : decode cX0_look 10 = .ok (.getfield 78, 3) := by decide +kernel
theorem dX0_look_13 : decode cX0_look 13 = .ok (.iload_n 2, 1) := by decide +kernel
theorem dX0_look_14 : decode cX0_look 14 = .ok (.iaload, 1) := by decide +kernel
theorem dX0_look_15 : decode cX0_look 15 = .ok (.istore_n 3, 1) := by decide +kernel
theorem dX0_look_16 : decode cX0_look 16 = .ok (.aload_n 0, 1) := by decide +kernel
theorem dX0_look_17 : decode cX0_look 17 = .ok (.iconst 0, 1) := by decide +kernel
theorem dX0_look_18 : decode cX0_look 18 = .ok (.putfield 71, 3) := by decide +kernel
theorem dX0_look_21 : decode cX0_look 21 = .ok (.iload_n 3, 1) := by decide +kernel
theorem dX0_look_22 : decode cX0_look 22 = .ok (.iconst 2, 1) := by decide +kernel
theorem dX0_look_23 : decode cX0_look 23 = .ok (.if_icmp .ne 13, 3) := by decide +kernel
theorem dX0_look_26 : decode cX0_look 26 = .ok (.aload_n 0, 1) := by decide +kernel
theorem dX0_look_27 : decode cX0_look 27 = .ok (.aload_n 1, 1) := by decide +kernel
theorem dX0_look_28 : decode cX0_look 28 = .ok (.iload_n 2, 1) := by decide +kernel
theorem dX0_look_29 : decode cX0_look 29 = .ok (.invokevirtual 81, 3) := by decide +kernel
theorem dX0_look_32 : decode cX0_look 32 = .ok (.putfield 85, 3) := by decide +kernel
theorem dX0_look_35 : decode cX0_look 35 = .ok (.return_, 1) := by decide +kernel
theorem dX0_look_36 : decode cX0_look 36 = .ok (.aload_n 0, 1) := by decide +kernel
theorem dX0_look_37 : decode cX0_look 37 = .ok (.iconst 0, 1) := by decide +kernel
theorem dX0_look_38 : decode cX0_look 38 = .ok (.putfield 85, 3) := by decide +kernel
theorem dX0_look_41 : decode cX0_look 41 = .ok (.aload_n 0, 1) := by decide +kernel
theorem dX0_look_42 : decode cX0_look 42 = .ok (.getfield 59, 3) := by decide +kernel
theorem dX0_look_45 : decode cX0_look 45 = .ok (.ifCond .le 37, 3) := by decide +kernel
theorem dX0_look_48 : decode cX0_look 48 = .ok (.aload_n 0, 1) := by decide +kernel
theorem dX0_look_49 : decode cX0_look 49 = .ok (.ldc 88, 2) := by decide +kernel
theorem dX0_look_51 : decode cX0_look 51 = .ok (.putfield 85, 3) := by decide +kernel
theorem dX0_look_54 : decode cX0_look 54 = .ok (.aload_n 0, 1) := by decide +kernel
theorem dX0_look_55 : decode cX0_look 55 = .ok (.aload_n 1, 1) := by decide +kernel
theorem dX0_look_56 : decode cX0_look 56 = .ok (.iload_n 2, 1) := by decide +kernel
theorem dX0_look_57 : decode cX0_look 57 = .ok (.invokevirtual 89, 3) := by decide +kernel
theorem dX0_look_60 : decode cX0_look 60 = .ok (.iload_n 3, 1) := by decide +kernel
theorem dX0_look_61 : decode cX0_look 61 = .ok (.iconst 1, 1) := by decide +kernel
theorem dX0_look_62 : decode cX0_look 62 = .ok (.if_icmp .eq 8, 3) := by decide +kernel
theorem dX0_look_65 : decode cX0_look 65 = .ok (.iload_n 3, 1) := by decide +kernel
theorem dX0_look_66 : decode cX0_look 66 = .ok (.iconst 4, 1) := by decide +kernel
theorem dX0_look_67 : decode cX0_look 67 = .ok (.if_icmp .ne 10, 3) := by decide +kernel
theorem dX0_look_70 : decode cX0_look 70 = .ok (.aload_n 0, 1) := by decide +kernel
theorem dX0_look_71 : decode cX0_look 71 = .ok (.invokevirtual 92, 3) := by decide +kernel
theorem dX0_look_74 : decode cX0_look 74 = .ok (.goto 8, 3) := by decide +kernel
theorem dX0_look_77 : decode cX0_look 77 = .ok (.aload_n 0, 1) := by decide +kernel
theorem dX0_look_78 : decode cX0_look 78 = .ok (.iconst 0, 1) := by decide +kernel
theorem dX0_look_79 : decode cX0_look 79 = .ok (.invokevirtual 95, 3) := by decide +kernel
theorem dX0_look_82 : decode cX0_look 82 = .ok (.iload_n 3, 1) := by decide +kernel
theorem dX0_look_83 : decode cX0_look 83 = .ok (.iconst 4, 1) := by decide +kernel
theorem dX0_look_84 : decode cX0_look 84 = .ok (.if_icmp .ne 46, 3) := by decide +kernel
theorem dX0_look_87 : decode cX0_look 87 = .ok (.aload_n 0, 1) := by decide +kernel
theorem dX0_look_88 : decode cX0_look 88 = .ok (.aload_n 0, 1) := by decide +kernel
theorem dX0_look_89 : decode cX0_look 89 = .ok (.getfield 85, 3) := by decide +kernel
theorem dX0_look_92 : decode cX0_look 92 = .ok (.aload_n 0, 1) := by decide +kernel
theorem dX0_look_93 : decode cX0_look 93 = .ok (.getfield 41, 3) := by decide +kernel
theorem dX0_look_96 : decode cX0_look 96 = .ok (.getfield 99, 3) := by decide +kernel
theorem dX0_look_99 : decode cX0_look 99 = .ok (.iload_n 2, 1) := by decide +kernel
theorem dX0_look_100 : decode cX0_look 100 = .ok (.iaload, 1) := by decide +kernel
theorem dX0_look_101 : decode cX0_look 101 = .ok (.if_icmp .le 7, 3) := by decide +kernel
theorem dX0_look_104 : decode cX0_look 104 = .ok (.iconst 1, 1) := by decide +kernel
theorem dX0_look_105 : decode cX0_look 105 = .ok (.goto 4, 3) := by decide +kernel
theorem dX0_look_108 : decode cX0_look 108 = .ok (.iconst 0, 1) := by decide +kernel
theorem dX0_look_109 : decode cX0_look 109 = .ok (.putfield 71, 3) := by decide +kernel
theorem dX0_look_112 : decode cX0_look 112 = .ok (.aload_n 0, 1) := by decide +kernel
theorem dX0_look_113 : decode cX0_look 113 = .ok (.getfield 71, 3) := by decide +kernel
theorem dX0_look_116 : decode cX0_look 116 = .ok (.ifCond .ne 14, 3) := by decide +kernel
theorem dX0_look_119 : decode cX0_look 119 = .ok (.aload_n 0, 1) := by decide +kernel
theorem dX0_look_120 : decode cX0_look 120 = .ok (.aload_n 1, 1) := by decide +kernel
theorem dX0_look_121 : decode cX0_look 121 = .ok (.iload_n 2, 1) := by decide +kernel
theorem dX0_look_122 : decode cX0_look 122 = .ok (.invokevirtual 75, 3) := by decide +kernel
theorem dX0_look_125 : decode cX0_look 125 = .ok (.aload_n 0, 1) := by decide +kernel
theorem dX0_look_126 : decode cX0_look 126 = .ok (.iconst 0, 1) := by decide +kernel
theorem dX0_look_127 : decode cX0_look 127 = .ok (.putfield 85, 3) := by decide +kernel
theorem dX0_look_130 : decode cX0_look 130 = .ok (.return_, 1) := by decide +kernel
theorem dX0_take_0 : decode cX0_take 0 = .ok (.iconst 0, 1) := by decide +kernel
theorem dX0_take_1 : decode cX0_take 1 = .ok (.istore_n 3, 1) := by decide +kernel
theorem dX0_take_2 : decode cX0_take 2 = .ok (.iconst 0, 1) := by decide +kernel
theorem dX0_take_3 : decode cX0_take 3 = .ok (.istore 4, 2) := by decide +kernel
theorem dX0_take_5 : decode cX0_take 5 = .ok (.iload 4, 2) := by decide +kernel
theorem dX0_take_7 : decode cX0_take 7 = .ok (.aload_n 0, 1) := by decide +kernel
theorem dX0_take_8 : decode cX0_take 8 = .ok (.getfield 59, 3) := by decide +kernel
theorem dX0_take_11 : decode cX0_take 11 = .ok (.if_icmp .ge 53, 3) := by decide +kernel
theorem dX0_take_14 : decode cX0_take 14 = .ok (.aload_n 1, 1) := by decide +kernel
theorem dX0_take_15 : decode cX0_take 15 = .ok (.getfield 62, 3) := by decide +kernel
theorem dX0_take_18 : decode cX0_take 18 = .ok (.aload_n 0, 1) := by decide +kernel
theorem dX0_take_19 : decode cX0_take 19 = .ok (.getfield 9, 3) := by decide +kernel
theorem dX0_take_22 : decode cX0_take 22 = .ok (.iload 4, 2) := by decide +kernel
theorem dX0_take_24 : decode cX0_take 24 = .ok (.iaload, 1) := by decide +kernel
theorem dX0_take_25 : decode cX0_take 25 = .ok (.iaload, 1) := by decide +kernel
theorem dX0_take_26 : decode cX0_take 26 = .ok (.aload_n 0, 1) := by decide +kernel
theorem dX0_take_27 : decode cX0_take 27 = .ok (.getfield 21, 3) := by decide +kernel
theorem dX0_take_30 : decode cX0_take 30 = .ok (.iload 4, 2) := by decide +kernel
theorem dX0_take_32 : decode cX0_take 32 = .ok (.iaload, 1) := by decide +kernel
theorem dX0_take_33 : decode cX0_take 33 = .ok (.if_icmp .eq 25, 3) := by decide +kernel
theorem dX0_take_36 : decode cX0_take 36 = .ok (.aload_n 1, 1) := by decide +kernel
theorem dX0_take_37 : decode cX0_take 37 = .ok (.getfield 62, 3) := by decide +kernel
theorem dX0_take_40 : decode cX0_take 40 = .ok (.aload_n 0, 1) := by decide +kernel
theorem dX0_take_41 : decode cX0_take 41 = .ok (.getfield 9, 3) := by decide +kernel
theorem dX0_take_44 : decode cX0_take 44 = .ok (.iload 4, 2) := by decide +kernel
theorem dX0_take_46 : decode cX0_take 46 = .ok (.iaload, 1) := by decide +kernel
theorem dX0_take_47 : decode cX0_take 47 = .ok (.aload_n 0, 1) := by decide +kernel
theorem dX0_take_48 : decode cX0_take 48 = .ok (.getfield 21, 3) := by decide +kernel
theorem dX0_take_51 : decode cX0_take 51 = .ok (.iload 4, 2) := by decide +kernel
theorem dX0_take_53 : decode cX0_take 53 = .ok (.iaload, 1) := by decide +kernel
theorem dX0_take_54 : decode cX0_take 54 = .ok (.iastore, 1) := by decide +kernel
theorem dX0_take_55 : decode cX0_take 55 = .ok (.iinc 3 1, 3) := by decide +kernel
theorem dX0_take_58 : decode cX0_take 58 = .ok (.iinc 4 1, 3) := by decide +kernel
theorem dX0_take_61 : decode cX0_take 61 = .ok (.goto (-56), 3) := by decide +kernel
theorem dX0_take_64 : decode cX0_take 64 = .ok (.aload_n 1, 1) := by decide +kernel
theorem dX0_take_65 : decode cX0_take 65 = .ok (.getfield 67, 3) := by decide +kernel
theorem dX0_take_68 : decode cX0_take 68 = .ok (.iload_n 2, 1) := by decide +kernel
theorem dX0_take_69 : decode cX0_take 69 = .ok (.baload, 1) := by decide +kernel
theorem dX0_take_70 : decode cX0_take 70 = .ok (.aload_n 0, 1) := by decide +kernel
theorem dX0_take_71 : decode cX0_take 71 = .ok (.getfield 71, 3) := by decide +kernel
theorem dX0_take_74 : decode cX0_take 74 = .ok (.if_icmp .eq 16, 3) := by decide +kernel
theorem dX0_take_77 : decode cX0_take 77 = .ok (.aload_n 1, 1) := by decide +kernel
theorem dX0_take_78 : decode cX0_take 78 = .ok (.getfield 67, 3) := by decide +kernel
theorem dX0_take_81 : decode cX0_take 81 = .ok (.iload_n 2, 1) := by decide +kernel
theorem dX0_take_82 : decode cX0_take 82 = .ok (.aload_n 0, 1) := by decide +kernel
theorem dX0_take_83 : decode cX0_take 83 = .ok (.getfield 71, 3) := by decide +kernel
theorem dX0_take_86 : decode cX0_take 86 = .ok (.bastore, 1) := by decide +kernel
theorem dX0_take_87 : decode cX0_take 87 = .ok (.iinc 3 1, 3) := by decide +kernel
theorem dX0_take_90 : decode cX0_take 90 = .ok (.iload_n 3, 1) := by decide +kernel
theorem dX0_take_91 : decode cX0_take 91 = .ok (.ireturn, 1) := by decide +kernel
theorem dX0_settle_0 : decode cX0_settle 0 = .ok (.iconst 0, 1) := by decide +kernel
theorem dX0_settle_1 : decode cX0_settle 1 = .ok (.istore_n 2, 1) := by decide +kernel
theorem dX0_settle_2 : decode cX0_settle 2 = .ok (.iload_n 2, 1) := by decide +kernel
theorem dX0_settle_3 : decode cX0_settle 3 = .ok (.bipush 20, 2) := by decide +kernel
theorem dX0_settle_5 : decode cX0_settle 5 = .ok (.if_icmp .ge 55, 3) := by decide +kernel
theorem dX0_settle_8 : decode cX0_settle 8 = .ok (.iconst 0, 1) := by decide +kernel
theorem dX0_settle_9 : decode cX0_settle 9 = .ok (.istore_n 3, 1) := by decide +kernel
theorem dX0_settle_10 : decode cX0_settle 10 = .ok (.iconst 0, 1) := by decide +kernel
theorem dX0_settle_11 : decode cX0_settle 11 = .ok (.istore 4, 2) := by decide +kernel
theorem dX0_settle_13 : decode cX0_settle 13 = .ok (.iload 4, 2) := by decide +kernel
theorem dX0_settle_15 : decode cX0_settle 15 = .ok (.aload_n 0, 1) := by decide +kernel
theorem dX0_settle_16 : decode cX0_settle 16 = .ok (.getfield 41, 3) := by decide +kernel
theorem dX0_settle_19 : decode cX0_settle 19 = .ok (.getfield 45, 3) := by decide +kernel
theorem dX0_settle_22 : decode cX0_settle 22 = .ok (.if_icmp .ge 26, 3) := by decide +kernel
theorem dX0_settle_25 : decode cX0_settle 25 = .ok (.aload_n 0, 1) := by decide +kernel
theorem dX0_settle_26 : decode cX0_settle 26 = .ok (.aload_n 1, 1) := by decide +kernel
theorem dX0_settle_27 : decode cX0_settle 27 = .ok (.iload 4, 2) := by decide +kernel
theorem dX0_settle_29 : decode cX0_settle 29 = .ok (.invokevirtual 51, 3) := by decide +kernel
theorem dX0_settle_32 : decode cX0_settle 32 = .ok (.iload_n 3, 1) := by decide +kernel
theorem dX0_settle_33 : decode cX0_settle 33 = .ok (.aload_n 0, 1) := by decide +kernel
theorem dX0_settle_34 : decode cX0_settle 34 = .ok (.aload_n 1, 1) := by decide +kernel
theorem dX0_settle_35 : decode cX0_settle 35 = .ok (.iload 4, 2) := by decide +kernel
theorem dX0_settle_37 : decode cX0_settle 37 = .ok (.invokevirtual 55, 3) := by decide +kernel
theorem dX0_settle_40 : decode cX0_settle 40 = .ok (.iadd, 1) := by decide +kernel
theorem dX0_settle_41 : decode cX0_settle 41 = .ok (.istore_n 3, 1) := by decide +kernel
theorem dX0_settle_42 : decode cX0_settle 42 = .ok (.iinc 4 1, 3) := by decide +kernel
theorem dX0_settle_45 : decode cX0_settle 45 = .ok (.goto (-32), 3) := by decide +kernel
theorem dX0_settle_48 : decode cX0_settle 48 = .ok (.iload_n 3, 1) := by decide +kernel
theorem dX0_settle_49 : decode cX0_settle 49 = .ok (.ifCond .ne 5, 3) := by decide +kernel
theorem dX0_settle_52 : decode cX0_settle 52 = .ok (.iload_n 2, 1) := by decide +kernel
theorem dX0_settle_53 : decode cX0_settle 53 = .ok (.ireturn, 1) := by decide +kernel
theorem dX0_settle_54 : decode cX0_settle 54 = .ok (.iinc 2 1, 3) := by decide +kernel
theorem dX0_settle_57 : decode cX0_settle 57 = .ok (.goto (-55), 3) := by decide +kernel
theorem dX0_settle_60 : decode cX0_settle 60 = .ok (.iconst (-1), 1) := by decide +kernel
theorem dX0_settle_61 : decode cX0_settle 61 = .ok (.ireturn, 1) := by decide +kernel
theorem dX0_priceOf_0 : decode cX0_priceOf 0 = .ok (.iconst 0, 1) := by decide +kernel
theorem dX0_priceOf_1 : decode cX0_priceOf 1 = .ok (.istore_n 2, 1) := by decide +kernel
theorem dX0_priceOf_2 : decode cX0_priceOf 2 = .ok (.iload_n 2, 1) := by decide +kernel
theorem dX0_priceOf_3 : decode cX0_priceOf 3 = .ok (.aload_n 0, 1) := by decide +kernel
theorem dX0_priceOf_4 : decode cX0_priceOf 4 = .ok (.getfield 59, 3) := by decide +kernel
theorem dX0_priceOf_7 : decode cX0_priceOf 7 = .ok (.if_icmp .ge 26, 3) := by decide +kernel
theorem dX0_priceOf_10 : decode cX0_priceOf 10 = .ok (.aload_n 0, 1) := by decide +kernel
theorem dX0_priceOf_11 : decode cX0_priceOf 11 = .ok (.getfield 9, 3) := by decide +kernel
theorem dX0_priceOf_14 : decode cX0_priceOf 14 = .ok (.iload_n 2, 1) := by decide +kernel
theorem dX0_priceOf_15 : decode cX0_priceOf 15 = .ok (.iaload, 1) := by decide +kernel
theorem dX0_priceOf_16 : decode cX0_priceOf 16 = .ok (.iload_n 1, 1) := by decide +kernel
theorem dX0_priceOf_17 : decode cX0_priceOf 17 = .ok (.if_icmp .ne 10, 3) := by decide +kernel
theorem dX0_priceOf_20 : decode cX0_priceOf 20 = .ok (.aload_n 0, 1) := by decide +kernel
theorem dX0_priceOf_21 : decode cX0_priceOf 21 = .ok (.getfield 21, 3) := by decide +kernel
theorem dX0_priceOf_24 : decode cX0_priceOf 24 = .ok (.iload_n 2, 1) := by decide +kernel
theorem dX0_priceOf_25 : decode cX0_priceOf 25 = .ok (.iaload, 1) := by decide +kernel
theorem dX0_priceOf_26 : decode cX0_priceOf 26 = .ok (.ireturn, 1) := by decide +kernel
theorem dX0_priceOf_27 : decode cX0_priceOf 27 = .ok (.iinc 2 1, 3) := by decide +kernel
theorem dX0_priceOf_30 : decode cX0_priceOf 30 = .ok (.goto (-28), 3) := by decide +kernel
theorem dX0_priceOf_33 : decode cX0_priceOf 33 = .ok (.iconst (-1), 1) := by decide +kernel
theorem dX0_priceOf_34 : decode cX0_priceOf 34 = .ok (.ireturn, 1) := by decide +kernel
theorem dX6_at_0 : decode cX6_at 0 = .ok (.iload_n 1, 1) := by decide +kernel
theorem dX6_at_1 : decode cX6_at 1 = .ok (.ifCond .lt 20, 3) := by decide +kernel
theorem dX6_at_4 : decode cX6_at 4 = .ok (.iload_n 1, 1) := by decide +kernel
theorem dX6_at_5 : decode cX6_at 5 = .ok (.aload_n 0, 1) := by decide +kernel
theorem dX6_at_6 : decode cX6_at 6 = .ok (.getfield 15, 3) := by decide +kernel
theorem dX6_at_9 : decode cX6_at 9 = .ok (.if_icmp .ge 12, 3) := by decide +kernel
theorem dX6_at_12 : decode cX6_at 12 = .ok (.aload_n 0, 1) := by decide +kernel
theorem dX6_at_13 : decode cX6_at 13 = .ok (.getfield 9, 3) := by decide +kernel
theorem dX6_at_16 : decode cX6_at 16 = .ok (.iload_n 1, 1) := by decide +kernel
theorem dX6_at_17 : decode cX6_at 17 = .ok (.caload, 1) := by decide +kernel
theorem dX6_at_18 : decode cX6_at 18 = .ok (.goto 4, 3) := by decide +kernel
theorem dX6_at_21 : decode cX6_at 21 = .ok (.iconst 0, 1) := by decide +kernel
theorem dX6_at_22 : decode cX6_at 22 = .ok (.ireturn, 1) := by decide +kernel
theorem dX1_takesFactor_0 : decode cX1_takesFactor 0 = .ok (.iload_n 1, 1) := by decide +kernel
theorem dX1_takesFactor_1 : decode cX1_takesFactor 1 = .ok (.bipush 40, 2) := by decide +kernel
theorem dX1_takesFactor_3 : decode cX1_takesFactor 3 = .ok (.if_icmp .ne 15, 3) := by decide +kernel
theorem dX1_takesFactor_6 : decode cX1_takesFactor 6 = .ok (.aload_n 0, 1) := by decide +kernel
theorem dX1_takesFactor_7 : decode cX1_takesFactor 7 = .ok (.dup, 1) := by decide +kernel
theorem dX1_takesFactor_8 : decode cX1_takesFactor 8 = .ok (.getfield 13, 3) := by decide +kernel
theorem dX1_takesFactor_11 : decode cX1_takesFactor 11 = .ok (.iconst 1, 1) := by decide +kernel
theorem dX1_takesFactor_12 : decode cX1_takesFactor 12 = .ok (.iadd, 1) := by decide +kernel
theorem dX1_takesFactor_13 : decode cX1_takesFactor 13 = .ok (.putfield 13, 3) := by decide +kernel
theorem dX1_takesFactor_16 : decode cX1_takesFactor 16 = .ok (.iconst 1, 1) := by decide +kernel
theorem dX1_takesFactor_17 : decode cX1_takesFactor 17 = .ok (.ireturn, 1) := by decide +kernel
theorem dX1_takesFactor_18 : decode cX1_takesFactor 18 = .ok (.iload_n 1, 1) := by decide +kernel
theorem dX1_takesFactor_19 : decode cX1_takesFactor 19 = .ok (.bipush 33, 2) := by decide +kernel
theorem dX1_takesFactor_21 : decode cX1_takesFactor 21 = .ok (.if_icmp .ne 5, 3) := by decide +kernel
theorem dX1_takesFactor_24 : decode cX1_takesFactor 24 = .ok (.iconst 1, 1) := by decide +kernel
theorem dX1_takesFactor_25 : decode cX1_takesFactor 25 = .ok (.ireturn, 1) := by decide +kernel
theorem dX1_takesFactor_26 : decode cX1_takesFactor 26 = .ok (.aload_n 0, 1) := by decide +kernel
theorem dX1_takesFactor_27 : decode cX1_takesFactor 27 = .ok (.iconst 1, 1) := by decide +kernel
theorem dX1_takesFactor_28 : decode cX1_takesFactor 28 = .ok (.putfield 9, 3) := by decide +kernel
theorem dX1_takesFactor_31 : decode cX1_takesFactor 31 = .ok (.iload_n 1, 1) := by decide +kernel
theorem dX1_takesFactor_32 : decode cX1_takesFactor 32 = .ok (.bipush 115, 2) := by decide +kernel
theorem dX1_takesFactor_34 : decode cX1_takesFactor 34 = .ok (.if_icmp .eq 21, 3) := by decide +kernel
theorem dX1_takesFactor_37 : decode cX1_takesFactor 37 = .ok (.iload_n 1, 1) := by decide +kernel
theorem dX1_takesFactor_38 : decode cX1_takesFactor 38 = .ok (.bipush 111, 2) := by decide +kernel
theorem dX1_takesFactor_40 : decode cX1_takesFactor 40 = .ok (.if_icmp .eq 15, 3) := by decide +kernel
theorem dX1_takesFactor_43 : decode cX1_takesFactor 43 = .ok (.iload_n 1, 1) := by decide +kernel
theorem dX1_takesFactor_44 : decode cX1_takesFactor 44 = .ok (.bipush 114, 2) := by decide +kernel
theorem dX1_takesFactor_46 : decode cX1_takesFactor 46 = .ok (.if_icmp .eq 9, 3) := by decide +kernel
theorem dX1_takesFactor_49 : decode cX1_takesFactor 49 = .ok (.iload_n 1, 1) := by decide +kernel
theorem dX1_takesFactor_50 : decode cX1_takesFactor 50 = .ok (.bipush 100, 2) := by decide +kernel
theorem dX1_takesFactor_52 : decode cX1_takesFactor 52 = .ok (.if_icmp .ne 7, 3) := by decide +kernel
theorem dX1_takesFactor_55 : decode cX1_takesFactor 55 = .ok (.iconst 1, 1) := by decide +kernel
theorem dX1_takesFactor_56 : decode cX1_takesFactor 56 = .ok (.goto 4, 3) := by decide +kernel
theorem dX1_takesFactor_59 : decode cX1_takesFactor 59 = .ok (.iconst 0, 1) := by decide +kernel
theorem dX1_takesFactor_60 : decode cX1_takesFactor 60 = .ok (.ireturn, 1) := by decide +kernel
theorem dX6_isDigit_0 : decode cX6_isDigit 0 = .ok (.iload_n 0, 1) := by decide +kernel
theorem dX6_isDigit_1 : decode cX6_isDigit 1 = .ok (.bipush 48, 2) := by decide +kernel
theorem dX6_isDigit_3 : decode cX6_isDigit 3 = .ok (.if_icmp .lt 13, 3) := by decide +kernel
theorem dX6_isDigit_6 : decode cX6_isDigit 6 = .ok (.iload_n 0, 1) := by decide +kernel
theorem dX6_isDigit_7 : decode cX6_isDigit 7 = .ok (.bipush 57, 2) := by decide +kernel
theorem dX6_isDigit_9 : decode cX6_isDigit 9 = .ok (.if_icmp .gt 7, 3) := by decide +kernel
theorem dX6_isDigit_12 : decode cX6_isDigit 12 = .ok (.iconst 1, 1) := by decide +kernel
theorem dX6_isDigit_13 : decode cX6_isDigit 13 = .ok (.goto 4, 3) := by decide +kernel
theorem dX6_isDigit_16 : decode cX6_isDigit 16 = .ok (.iconst 0, 1) := by decide +kernel
theorem dX6_isDigit_17 : decode cX6_isDigit 17 = .ok (.ireturn, 1) := by decide +kernel
theorem dX1_takesDigit_0 : decode cX1_takesDigit 0 = .ok (.iload_n 1, 1) := by decide +kernel
theorem dX1_takesDigit_1 : decode cX1_takesDigit 1 = .ok (.invokestatic 45, 3) := by decide +kernel
theorem dX1_takesDigit_4 : decode cX1_takesDigit 4 = .ok (.ifCond .eq 11, 3) := by decide +kernel
theorem dX1_takesDigit_7 : decode cX1_takesDigit 7 = .ok (.aload_n 0, 1) := by decide +kernel
theorem dX1_takesDigit_8 : decode cX1_takesDigit 8 = .ok (.getfield 36, 3) := by decide +kernel
theorem dX1_takesDigit_11 : decode cX1_takesDigit 11 = .ok (.iconst 4, 1) := by decide +kernel
theorem dX1_takesDigit_12 : decode cX1_takesDigit 12 = .ok (.if_icmp .lt 5, 3) := by decide +kernel
theorem dX1_takesDigit_15 : decode cX1_takesDigit 15 = .ok (.iconst 0, 1) := by decide +kernel
theorem dX1_takesDigit_16 : decode cX1_takesDigit 16 = .ok (.ireturn, 1) := by decide +kernel
theorem dX1_takesDigit_17 : decode cX1_takesDigit 17 = .ok (.aload_n 0, 1) := by decide +kernel
theorem dX1_takesDigit_18 : decode cX1_takesDigit 18 = .ok (.iconst 3, 1) := by decide +kernel
theorem dX1_takesDigit_19 : decode cX1_takesDigit 19 = .ok (.putfield 9, 3) := by decide +kernel
theorem dX1_takesDigit_22 : decode cX1_takesDigit 22 = .ok (.aload_n 0, 1) := by decide +kernel
theorem dX1_takesDigit_23 : decode cX1_takesDigit 23 = .ok (.dup, 1) := by decide +kernel
theorem dX1_takesDigit_24 : decode cX1_takesDigit 24 = .ok (.getfield 36, 3) := by decide +kernel
theorem dX1_takesDigit_27 : decode cX1_takesDigit 27 = .ok (.iconst 1, 1) := by decide +kernel
theorem dX1_takesDigit_28 : decode cX1_takesDigit 28 = .ok (.iadd, 1) := by decide +kernel
theorem dX1_takesDigit_29 : decode cX1_takesDigit 29 = .ok (.putfield 36, 3) := by decide +kernel
theorem dX1_takesDigit_32 : decode cX1_takesDigit 32 = .ok (.iconst 1, 1) := by decide +kernel
theorem dX1_takesDigit_33 : decode cX1_takesDigit 33 = .ok (.ireturn, 1) := by decide +kernel
theorem dX1_takesBehind_0 : decode cX1_takesBehind 0 = .ok (.iload_n 1, 1) := by decide +kernel
theorem dX1_takesBehind_1 : decode cX1_takesBehind 1 = .ok (.bipush 41, 2) := by decide +kernel
theorem dX1_takesBehind_3 : decode cX1_takesBehind 3 = .ok (.if_icmp .ne 27, 3) := by decide +kernel
theorem dX1_takesBehind_6 : decode cX1_takesBehind 6 = .ok (.aload_n 0, 1) := by decide +kernel
theorem dX1_takesBehind_7 : decode cX1_takesBehind 7 = .ok (.getfield 13, 3) := by decide +kernel
theorem dX1_takesBehind_10 : decode cX1_takesBehind 10 = .ok (.ifCond .le 20, 3) := by decide +kernel
theorem dX1_takesBehind_13 : decode cX1_takesBehind 13 = .ok (.aload_n 0, 1) := by decide +kernel
theorem dX1_takesBehind_14 : decode cX1_takesBehind 14 = .ok (.dup, 1) := by decide +kernel
theorem dX1_takesBehind_15 : decode cX1_takesBehind 15 = .ok (.getfield 13, 3) := by decide +kernel
theorem dX1_takesBehind_18 : decode cX1_takesBehind 18 = .ok (.iconst 1, 1) := by decide +kernel
theorem dX1_takesBehind_19 : decode cX1_takesBehind 19 = .ok (.isub, 1) := by decide +kernel
theorem dX1_takesBehind_20 : decode cX1_takesBehind 20 = .ok (.putfield 13, 3) := by decide +kernel
theorem dX1_takesBehind_23 : decode cX1_takesBehind 23 = .ok (.aload_n 0, 1) := by decide +kernel
theorem dX1_takesBehind_24 : decode cX1_takesBehind 24 = .ok (.iconst 4, 1) := by decide +kernel
theorem dX1_takesBehind_25 : decode cX1_takesBehind 25 = .ok (.putfield 9, 3) := by decide +kernel
theorem dX1_takesBehind_28 : decode cX1_takesBehind 28 = .ok (.iconst 1, 1) := by decide +kernel
theorem dX1_takesBehind_29 : decode cX1_takesBehind 29 = .ok (.ireturn, 1) := by decide +kernel
theorem dX1_takesBehind_30 : decode cX1_takesBehind 30 = .ok (.aload_n 0, 1) := by decide +kernel
theorem dX1_takesBehind_31 : decode cX1_takesBehind 31 = .ok (.iconst 0, 1) := by decide +kernel
theorem dX1_takesBehind_32 : decode cX1_takesBehind 32 = .ok (.putfield 9, 3) := by decide +kernel
theorem dX1_takesBehind_35 : decode cX1_takesBehind 35 = .ok (.iload_n 1, 1) := by decide +kernel
theorem dX1_takesBehind_36 : decode cX1_takesBehind 36 = .ok (.bipush 124, 2) := by decide +kernel
theorem dX1_takesBehind_38 : decode cX1_takesBehind 38 = .ok (.if_icmp .eq 9, 3) := by decide +kernel
theorem dX1_takesBehind_41 : decode cX1_takesBehind 41 = .ok (.iload_n 1, 1) := by decide +kernel
theorem dX1_takesBehind_42 : decode cX1_takesBehind 42 = .ok (.bipush 38, 2) := by decide +kernel
theorem dX1_takesBehind_44 : decode cX1_takesBehind 44 = .ok (.if_icmp .ne 7, 3) := by decide +kernel
theorem dX1_takesBehind_47 : decode cX1_takesBehind 47 = .ok (.iconst 1, 1) := by decide +kernel
theorem dX1_takesBehind_48 : decode cX1_takesBehind 48 = .ok (.goto 4, 3) := by decide +kernel
theorem dX1_takesBehind_51 : decode cX1_takesBehind 51 = .ok (.iconst 0, 1) := by decide +kernel
theorem dX1_takesBehind_52 : decode cX1_takesBehind 52 = .ok (.ireturn, 1) := by decide +kernel
theorem dX1_takes_0 : decode cX1_takes 0 = .ok (.aload_n 0, 1) := by decide +kernel
theorem dX1_takes_1 : decode cX1_takes 1 = .ok (.getfield 9, 3) := by decide +kernel
theorem dX1_takes_4 : decode cX1_takes 4 = .ok (.tableswitch 100 0 3 #[32, 38, 72, 78], 32) := by decide +kernel
theorem dX1_takes_36 : decode cX1_takes 36 = .ok (.aload_n 0, 1) := by decide +kernel
theorem dX1_takes_37 : decode cX1_takes 37 = .ok (.iload_n 1, 1) := by decide +kernel
theorem dX1_takes_38 : decode cX1_takes 38 = .ok (.invokevirtual 33, 3) := by decide +kernel
theorem dX1_takes_41 : decode cX1_takes 41 = .ok (.ireturn, 1) := by decide +kernel
theorem dX1_takes_42 : decode cX1_takes 42 = .ok (.aload_n 0, 1) := by decide +kernel
theorem dX1_takes_43 : decode cX1_takes 43 = .ok (.iconst 2, 1) := by decide +kernel
theorem dX1_takes_44 : decode cX1_takes 44 = .ok (.putfield 9, 3) := by decide +kernel
theorem dX1_takes_47 : decode cX1_takes 47 = .ok (.aload_n 0, 1) := by decide +kernel
theorem dX1_takes_48 : decode cX1_takes 48 = .ok (.iconst 0, 1) := by decide +kernel
theorem dX1_takes_49 : decode cX1_takes 49 = .ok (.putfield 36, 3) := by decide +kernel
theorem dX1_takes_52 : decode cX1_takes 52 = .ok (.iload_n 1, 1) := by decide +kernel
theorem dX1_takes_53 : decode cX1_takes 53 = .ok (.bipush 60, 2) := by decide +kernel
theorem dX1_takes_55 : decode cX1_takes 55 = .ok (.if_icmp .eq 15, 3) := by decide +kernel
theorem dX1_takes_58 : decode cX1_takes 58 = .ok (.iload_n 1, 1) := by decide +kernel
theorem dX1_takes_59 : decode cX1_takes 59 = .ok (.bipush 61, 2) := by decide +kernel
theorem dX1_takes_61 : decode cX1_takes 61 = .ok (.if_icmp .eq 9, 3) := by decide +kernel
theorem dX1_takes_64 : decode cX1_takes 64 = .ok (.iload_n 1, 1) := by decide +kernel
theorem dX1_takes_65 : decode cX1_takes 65 = .ok (.bipush 62, 2) := by decide +kernel
theorem dX1_takes_67 : decode cX1_takes 67 = .ok (.if_icmp .ne 7, 3) := by decide +kernel
theorem dX1_takes_70 : decode cX1_takes 70 = .ok (.iconst 1, 1) := by decide +kernel
theorem dX1_takes_71 : decode cX1_takes 71 = .ok (.goto 4, 3) := by decide +kernel
theorem dX1_takes_74 : decode cX1_takes 74 = .ok (.iconst 0, 1) := by decide +kernel
theorem dX1_takes_75 : decode cX1_takes 75 = .ok (.ireturn, 1) := by decide +kernel
theorem dX1_takes_76 : decode cX1_takes 76 = .ok (.aload_n 0, 1) := by decide +kernel
theorem dX1_takes_77 : decode cX1_takes 77 = .ok (.iload_n 1, 1) := by decide +kernel
theorem dX1_takes_78 : decode cX1_takes 78 = .ok (.invokevirtual 39, 3) := by decide +kernel
theorem dX1_takes_81 : decode cX1_takes 81 = .ok (.ireturn, 1) := by decide +kernel
theorem dX1_takes_82 : decode cX1_takes 82 = .ok (.aload_n 0, 1) := by decide +kernel
theorem dX1_takes_83 : decode cX1_takes 83 = .ok (.iload_n 1, 1) := by decide +kernel
theorem dX1_takes_84 : decode cX1_takes 84 = .ok (.invokevirtual 39, 3) := by decide +kernel
theorem dX1_takes_87 : decode cX1_takes 87 = .ok (.ifCond .ne 11, 3) := by decide +kernel
theorem dX1_takes_90 : decode cX1_takes 90 = .ok (.aload_n 0, 1) := by decide +kernel
theorem dX1_takes_91 : decode cX1_takes 91 = .ok (.iload_n 1, 1) := by decide +kernel
theorem dX1_takes_92 : decode cX1_takes 92 = .ok (.invokevirtual 42, 3) := by decide +kernel
theorem dX1_takes_95 : decode cX1_takes 95 = .ok (.ifCond .eq 7, 3) := by decide +kernel
theorem dX1_takes_98 : decode cX1_takes 98 = .ok (.iconst 1, 1) := by decide +kernel
theorem dX1_takes_99 : decode cX1_takes 99 = .ok (.goto 4, 3) := by decide +kernel
theorem dX1_takes_102 : decode cX1_takes 102 = .ok (.iconst 0, 1) := by decide +kernel
theorem dX1_takes_103 : decode cX1_takes 103 = .ok (.ireturn, 1) := by decide +kernel
theorem dX1_takes_104 : decode cX1_takes 104 = .ok (.aload_n 0, 1) := by decide +kernel
theorem dX1_takes_105 : decode cX1_takes 105 = .ok (.iload_n 1, 1) := by decide +kernel
theorem dX1_takes_106 : decode cX1_takes 106 = .ok (.invokevirtual 42, 3) := by decide +kernel
theorem dX1_takes_109 : decode cX1_takes 109 = .ok (.ireturn, 1) := by decide +kernel
theorem dX1_firstFault_0 : decode cX1_firstFault 0 = .ok (.aload_n 0, 1) := by decide +kernel
theorem dX1_firstFault_1 : decode cX1_firstFault 1 = .ok (.iconst 0, 1) := by decide +kernel
theorem dX1_firstFault_2 : decode cX1_firstFault 2 = .ok (.putfield 9, 3) := by decide +kernel
theorem dX1_firstFault_5 : decode cX1_firstFault 5 = .ok (.aload_n 0, 1) := by decide +kernel
theorem dX1_firstFault_6 : decode cX1_firstFault 6 = .ok (.iconst 0, 1) := by decide +kernel
theorem dX1_firstFault_7 : decode cX1_firstFault 7 = .ok (.putfield 13, 3) := by decide +kernel
theorem dX1_firstFault_10 : decode cX1_firstFault 10 = .ok (.iconst 0, 1) := by decide +kernel
theorem dX1_firstFault_11 : decode cX1_firstFault 11 = .ok (.istore_n 2, 1) := by decide +kernel
theorem dX1_firstFault_12 : decode cX1_firstFault 12 = .ok (.iload_n 2, 1) := by decide +kernel
theorem dX1_firstFault_13 : decode cX1_firstFault 13 = .ok (.aload_n 1, 1) := by decide +kernel
theorem dX1_firstFault_14 : decode cX1_firstFault 14 = .ok (.getfield 16, 3) := by decide +kernel
theorem dX1_firstFault_17 : decode cX1_firstFault 17 = .ok (.if_icmp .ge 23, 3) := by decide +kernel
theorem dX1_firstFault_20 : decode cX1_firstFault 20 = .ok (.aload_n 0, 1) := by decide +kernel
theorem dX1_firstFault_21 : decode cX1_firstFault 21 = .ok (.aload_n 1, 1) := by decide +kernel
theorem dX1_firstFault_22 : decode cX1_firstFault 22 = .ok (.iload_n 2, 1) := by decide +kernel
theorem dX1_firstFault_23 : decode cX1_firstFault 23 = .ok (.invokevirtual 21, 3) := by decide +kernel
theorem dX1_firstFault_26 : decode cX1_firstFault 26 = .ok (.invokevirtual 25, 3) := by decide +kernel
theorem dX1_firstFault_29 : decode cX1_firstFault 29 = .ok (.ifCond .ne 5, 3) := by decide +kernel
theorem dX1_firstFault_32 : decode cX1_firstFault 32 = .ok (.iload_n 2, 1) := by decide +kernel
theorem dX1_firstFault_33 : decode cX1_firstFault 33 = .ok (.ireturn, 1) := by decide +kernel
theorem dX1_firstFault_34 : decode cX1_firstFault 34 = .ok (.iinc 2 1, 3) := by decide +kernel
theorem dX1_firstFault_37 : decode cX1_firstFault 37 = .ok (.goto (-25), 3) := by decide +kernel
theorem dX1_firstFault_40 : decode cX1_firstFault 40 = .ok (.aload_n 1, 1) := by decide +kernel
theorem dX1_firstFault_41 : decode cX1_firstFault 41 = .ok (.getfield 16, 3) := by decide +kernel
theorem dX1_firstFault_44 : decode cX1_firstFault 44 = .ok (.ireturn, 1) := by decide +kernel
theorem dX1_isTest_0 : decode cX1_isTest 0 = .ok (.aload_n 0, 1) := by decide +kernel
theorem dX1_isTest_1 : decode cX1_isTest 1 = .ok (.aload_n 1, 1) := by decide +kernel
theorem dX1_isTest_2 : decode cX1_isTest 2 = .ok (.invokevirtual 29, 3) := by decide +kernel
theorem dX1_isTest_5 : decode cX1_isTest 5 = .ok (.aload_n 1, 1) := by decide +kernel
theorem dX1_isTest_6 : decode cX1_isTest 6 = .ok (.getfield 16, 3) := by decide +kernel
theorem dX1_isTest_9 : decode cX1_isTest 9 = .ok (.if_icmp .ne 30, 3) := by decide +kernel
theorem dX1_isTest_12 : decode cX1_isTest 12 = .ok (.aload_n 0, 1) := by decide +kernel
theorem dX1_isTest_13 : decode cX1_isTest 13 = .ok (.getfield 9, 3) := by decide +kernel
theorem dX1_isTest_16 : decode cX1_isTest 16 = .ok (.iconst 3, 1) := by decide +kernel
theorem dX1_isTest_17 : decode cX1_isTest 17 = .ok (.if_icmp .eq 11, 3) := by decide +kernel
theorem dX1_isTest_20 : decode cX1_isTest 20 = .ok (.aload_n 0, 1) := by decide +kernel
theorem dX1_isTest_21 : decode cX1_isTest 21 = .ok (.getfield 9, 3) := by decide +kernel
theorem dX1_isTest_24 : decode cX1_isTest 24 = .ok (.iconst 4, 1) := by decide +kernel
theorem dX1_isTest_25 : decode cX1_isTest 25 = .ok (.if_icmp .ne 14, 3) := by decide +kernel
theorem dX1_isTest_28 : decode cX1_isTest 28 = .ok (.aload_n 0, 1) := by decide +kernel
theorem dX1_isTest_29 : decode cX1_isTest 29 = .ok (.getfield 13, 3) := by decide +kernel
theorem dX1_isTest_32 : decode cX1_isTest 32 = .ok (.ifCond .ne 7, 3) := by decide +kernel
theorem dX1_isTest_35 : decode cX1_isTest 35 = .ok (.iconst 1, 1) := by decide +kernel
theorem dX1_isTest_36 : decode cX1_isTest 36 = .ok (.goto 4, 3) := by decide +kernel
theorem dX1_isTest_39 : decode cX1_isTest 39 = .ok (.iconst 0, 1) := by decide +kernel
theorem dX1_isTest_40 : decode cX1_isTest 40 = .ok (.ireturn, 1) := by decide +kernel
theorem dX4_become_0 : decode cX4_become 0 = .ok (.iconst 0, 1) := by decide +kernel
theorem dX4_become_1 : decode cX4_become 1 = .ok (.istore_n 2, 1) := by decide +kernel
theorem dX4_become_2 : decode cX4_become 2 = .ok (.iload_n 2, 1) := by decide +kernel
theorem dX4_become_3 : decode cX4_become 3 = .ok (.bipush 6, 2) := by decide +kernel
theorem dX4_become_5 : decode cX4_become 5 = .ok (.if_icmp .ge 33, 3) := by decide +kernel
theorem dX4_become_8 : decode cX4_become 8 = .ok (.aload_n 0, 1) := by decide +kernel
theorem dX4_become_9 : decode cX4_become 9 = .ok (.getfield 9, 3) := by decide +kernel
theorem dX4_become_12 : decode cX4_become 12 = .ok (.iload_n 2, 1) := by decide +kernel
theorem dX4_become_13 : decode cX4_become 13 = .ok (.aload_n 1, 1) := by decide +kernel
theorem dX4_become_14 : decode cX4_become 14 = .ok (.getfield 9, 3) := by decide +kernel
theorem dX4_become_17 : decode cX4_become 17 = .ok (.iload_n 2, 1) := by decide +kernel
theorem dX4_become_18 : decode cX4_become 18 = .ok (.iaload, 1) := by decide +kernel
theorem dX4_become_19 : decode cX4_become 19 = .ok (.iastore, 1) := by decide +kernel
theorem dX4_become_20 : decode cX4_become 20 = .ok (.aload_n 0, 1) := by decide +kernel
theorem dX4_become_21 : decode cX4_become 21 = .ok (.getfield 15, 3) := by decide +kernel
theorem dX4_become_24 : decode cX4_become 24 = .ok (.iload_n 2, 1) := by decide +kernel
theorem dX4_become_25 : decode cX4_become 25 = .ok (.aload_n 1, 1) := by decide +kernel
theorem dX4_become_26 : decode cX4_become 26 = .ok (.getfield 15, 3) := by decide +kernel
theorem dX4_become_29 : decode cX4_become 29 = .ok (.iload_n 2, 1) := by decide +kernel
theorem dX4_become_30 : decode cX4_become 30 = .ok (.iaload, 1) := by decide +kernel
theorem dX4_become_31 : decode cX4_become 31 = .ok (.iastore, 1) := by decide +kernel
theorem dX4_become_32 : decode cX4_become 32 = .ok (.iinc 2 1, 3) := by decide +kernel
theorem dX4_become_35 : decode cX4_become 35 = .ok (.goto (-33), 3) := by decide +kernel
theorem dX4_become_38 : decode cX4_become 38 = .ok (.iconst 0, 1) := by decide +kernel
theorem dX4_become_39 : decode cX4_become 39 = .ok (.istore_n 2, 1) := by decide +kernel
theorem dX4_become_40 : decode cX4_become 40 = .ok (.iload_n 2, 1) := by decide +kernel
theorem dX4_become_41 : decode cX4_become 41 = .ok (.bipush 6, 2) := by decide +kernel
theorem dX4_become_43 : decode cX4_become 43 = .ok (.if_icmp .ge 21, 3) := by decide +kernel
theorem dX4_become_46 : decode cX4_become 46 = .ok (.aload_n 0, 1) := by decide +kernel
theorem dX4_become_47 : decode cX4_become 47 = .ok (.getfield 18, 3) := by decide +kernel
theorem dX4_become_50 : decode cX4_become 50 = .ok (.iload_n 2, 1) := by decide +kernel
theorem dX4_become_51 : decode cX4_become 51 = .ok (.aload_n 1, 1) := by decide +kernel
theorem dX4_become_52 : decode cX4_become 52 = .ok (.getfield 18, 3) := by decide +kernel
theorem dX4_become_55 : decode cX4_become 55 = .ok (.iload_n 2, 1) := by decide +kernel
theorem dX4_become_56 : decode cX4_become 56 = .ok (.baload, 1) := by decide +kernel
theorem dX4_become_57 : decode cX4_become 57 = .ok (.bastore, 1) := by decide +kernel
theorem dX4_become_58 : decode cX4_become 58 = .ok (.iinc 2 1, 3) := by decide +kernel
theorem dX4_become_61 : decode cX4_become 61 = .ok (.goto (-21), 3) := by decide +kernel
theorem dX4_become_64 : decode cX4_become 64 = .ok (.return_, 1) := by decide +kernel
theorem dX4_spareOf_0 : decode cX4_spareOf 0 = .ok (.aload_n 0, 1) := by decide +kernel
theorem dX4_spareOf_1 : decode cX4_spareOf 1 = .ok (.iload_n 1, 1) := by decide +kernel
theorem dX4_spareOf_2 : decode cX4_spareOf 2 = .ok (.iconst (-1), 1) := by decide +kernel
theorem dX4_spareOf_3 : decode cX4_spareOf 3 = .ok (.invokevirtual 67, 3) := by decide +kernel
theorem dX4_spareOf_6 : decode cX4_spareOf 6 = .ok (.istore_n 2, 1) := by decide +kernel
theorem dX4_spareOf_7 : decode cX4_spareOf 7 = .ok (.iload_n 2, 1) := by decide +kernel
theorem dX4_spareOf_8 : decode cX4_spareOf 8 = .ok (.iconst (-1), 1) := by decide +kernel
theorem dX4_spareOf_9 : decode cX4_spareOf 9 = .ok (.if_icmp .ne 7, 3) := by decide +kernel
theorem dX4_spareOf_12 : decode cX4_spareOf 12 = .ok (.iconst 0, 1) := by decide +kernel
theorem dX4_spareOf_13 : decode cX4_spareOf 13 = .ok (.goto 19, 3) := by decide +kernel
theorem dX4_spareOf_16 : decode cX4_spareOf 16 = .ok (.aload_n 0, 1) := by decide +kernel
theorem dX4_spareOf_17 : decode cX4_spareOf 17 = .ok (.getfield 22, 3) := by decide +kernel
theorem dX4_spareOf_20 : decode cX4_spareOf 20 = .ok (.getfield 60, 3) := by decide +kernel
theorem dX4_spareOf_23 : decode cX4_spareOf 23 = .ok (.iload_n 1, 1) := by decide +kernel
theorem dX4_spareOf_24 : decode cX4_spareOf 24 = .ok (.iaload, 1) := by decide +kernel
theorem dX4_spareOf_25 : decode cX4_spareOf 25 = .ok (.aload_n 0, 1) := by decide +kernel
theorem dX4_spareOf_26 : decode cX4_spareOf 26 = .ok (.iload_n 1, 1) := by decide +kernel
theorem dX4_spareOf_27 : decode cX4_spareOf 27 = .ok (.iload_n 2, 1) := by decide +kernel
theorem dX4_spareOf_28 : decode cX4_spareOf 28 = .ok (.invokevirtual 63, 3) := by decide +kernel
theorem dX4_spareOf_31 : decode cX4_spareOf 31 = .ok (.isub, 1) := by decide +kernel
theorem dX4_spareOf_32 : decode cX4_spareOf 32 = .ok (.ireturn, 1) := by decide +kernel
theorem dX2_restsBefore_0 : decode cX2_restsBefore 0 = .ok (.aload_n 0, 1) := by decide +kernel
theorem dX2_restsBefore_1 : decode cX2_restsBefore 1 = .ok (.getfield 28, 3) := by decide +kernel
theorem dX2_restsBefore_4 : decode cX2_restsBefore 4 = .ok (.aload_n 1, 1) := by decide +kernel
theorem dX2_restsBefore_5 : decode cX2_restsBefore 5 = .ok (.invokevirtual 35, 3) := by decide +kernel
theorem dX2_restsBefore_8 : decode cX2_restsBefore 8 = .ok (.aload_n 0, 1) := by decide +kernel
theorem dX2_restsBefore_9 : decode cX2_restsBefore 9 = .ok (.getfield 19, 3) := by decide +kernel
theorem dX2_restsBefore_12 : decode cX2_restsBefore 12 = .ok (.aload_n 0, 1) := by decide +kernel
theorem dX2_restsBefore_13 : decode cX2_restsBefore 13 = .ok (.getfield 28, 3) := by decide +kernel
theorem dX2_restsBefore_16 : decode cX2_restsBefore 16 = .ok (.invokevirtual 39, 3) := by decide +kernel
theorem dX2_restsBefore_19 : decode cX2_restsBefore 19 = .ok (.iconst (-1), 1) := by decide +kernel
theorem dX2_restsBefore_20 : decode cX2_restsBefore 20 = .ok (.if_icmp .ne 5, 3) := by decide +kernel
theorem dX2_restsBefore_23 : decode cX2_restsBefore 23 = .ok (.iconst 0, 1) := by decide +kernel
theorem dX2_restsBefore_24 : decode cX2_restsBefore 24 = .ok (.ireturn, 1) := by decide +kernel
theorem dX2_restsBefore_25 : decode cX2_restsBefore 25 = .ok (.iconst 0, 1) := by decide +kernel
theorem dX2_restsBefore_26 : decode cX2_restsBefore 26 = .ok (.istore_n 2, 1) := by decide +kernel
theorem dX2_restsBefore_27 : decode cX2_restsBefore 27 = .ok (.iload_n 2, 1) := by decide +kernel
theorem dX2_restsBefore_28 : decode cX2_restsBefore 28 = .ok (.aload_n 0, 1) := by decide +kernel
theorem dX2_restsBefore_29 : decode cX2_restsBefore 29 = .ok (.getfield 15, 3) := by decide +kernel
theorem dX2_restsBefore_32 : decode cX2_restsBefore 32 = .ok (.getfield 45, 3) := by decide +kernel
theorem dX2_restsBefore_35 : decode cX2_restsBefore 35 = .ok (.if_icmp .ge 23, 3) := by decide +kernel
theorem dX2_restsBefore_38 : decode cX2_restsBefore 38 = .ok (.aload_n 0, 1) := by decide +kernel
theorem dX2_restsBefore_39 : decode cX2_restsBefore 39 = .ok (.getfield 9, 3) := by decide +kernel
theorem dX2_restsBefore_42 : decode cX2_restsBefore 42 = .ok (.iload_n 2, 1) := by decide +kernel
theorem dX2_restsBefore_43 : decode cX2_restsBefore 43 = .ok (.aload_n 0, 1) := by decide +kernel
theorem dX2_restsBefore_44 : decode cX2_restsBefore 44 = .ok (.getfield 28, 3) := by decide +kernel
theorem dX2_restsBefore_47 : decode cX2_restsBefore 47 = .ok (.iload_n 2, 1) := by decide +kernel
theorem dX2_restsBefore_48 : decode cX2_restsBefore 48 = .ok (.invokevirtual 51, 3) := by decide +kernel
theorem dX2_restsBefore_51 : decode cX2_restsBefore 51 = .ok (.iastore, 1) := by decide +kernel
theorem dX2_restsBefore_52 : decode cX2_restsBefore 52 = .ok (.iinc 2 1, 3) := by decide +kernel
theorem dX2_restsBefore_55 : decode cX2_restsBefore 55 = .ok (.goto (-28), 3) := by decide +kernel
theorem dX2_restsBefore_58 : decode cX2_restsBefore 58 = .ok (.iconst 1, 1) := by decide +kernel
theorem dX2_restsBefore_59 : decode cX2_restsBefore 59 = .ok (.ireturn, 1) := by decide +kernel
theorem dX4_give_0 : decode cX4_give 0 = .ok (.iconst 0, 1) := by decide +kernel
theorem dX4_give_1 : decode cX4_give 1 = .ok (.istore_n 3, 1) := by decide +kernel
theorem dX4_give_2 : decode cX4_give 2 = .ok (.iload_n 3, 1) := by decide +kernel
theorem dX4_give_3 : decode cX4_give 3 = .ok (.aload_n 0, 1) := by decide +kernel
theorem dX4_give_4 : decode cX4_give 4 = .ok (.getfield 22, 3) := by decide +kernel
theorem dX4_give_7 : decode cX4_give 7 = .ok (.getfield 26, 3) := by decide +kernel
theorem dX4_give_10 : decode cX4_give 10 = .ok (.if_icmp .ge 26, 3) := by decide +kernel
theorem dX4_give_13 : decode cX4_give 13 = .ok (.aload_n 0, 1) := by decide +kernel
theorem dX4_give_14 : decode cX4_give 14 = .ok (.getfield 15, 3) := by decide +kernel
theorem dX4_give_17 : decode cX4_give 17 = .ok (.iload_n 3, 1) := by decide +kernel
theorem dX4_give_18 : decode cX4_give 18 = .ok (.iaload, 1) := by decide +kernel
theorem dX4_give_19 : decode cX4_give 19 = .ok (.iload_n 1, 1) := by decide +kernel
theorem dX4_give_20 : decode cX4_give 20 = .ok (.if_icmp .ne 10, 3) := by decide +kernel
theorem dX4_give_23 : decode cX4_give 23 = .ok (.aload_n 0, 1) := by decide +kernel
theorem dX4_give_24 : decode cX4_give 24 = .ok (.getfield 15, 3) := by decide +kernel
theorem dX4_give_27 : decode cX4_give 27 = .ok (.iload_n 3, 1) := by decide +kernel
theorem dX4_give_28 : decode cX4_give 28 = .ok (.iload_n 2, 1) := by decide +kernel
theorem dX4_give_29 : decode cX4_give 29 = .ok (.iastore, 1) := by decide +kernel
theorem dX4_give_30 : decode cX4_give 30 = .ok (.iinc 3 1, 3) := by decide +kernel
theorem dX4_give_33 : decode cX4_give 33 = .ok (.goto (-31), 3) := by decide +kernel
theorem dX4_give_36 : decode cX4_give 36 = .ok (.return_, 1) := by decide +kernel
theorem dX2_roundsBehind_0 : decode cX2_roundsBehind 0 = .ok (.aload_n 0, 1) := by decide +kernel
theorem dX2_roundsBehind_1 : decode cX2_roundsBehind 1 = .ok (.getfield 32, 3) := by decide +kernel
theorem dX2_roundsBehind_4 : decode cX2_roundsBehind 4 = .ok (.aload_n 1, 1) := by decide +kernel
theorem dX2_roundsBehind_5 : decode cX2_roundsBehind 5 = .ok (.invokevirtual 35, 3) := by decide +kernel
theorem dX2_roundsBehind_8 : decode cX2_roundsBehind 8 = .ok (.aload_n 0, 1) := by decide +kernel
theorem dX2_roundsBehind_9 : decode cX2_roundsBehind 9 = .ok (.getfield 32, 3) := by decide +kernel
theorem dX2_roundsBehind_12 : decode cX2_roundsBehind 12 = .ok (.iload_n 3, 1) := by decide +kernel
theorem dX2_roundsBehind_13 : decode cX2_roundsBehind 13 = .ok (.iload_n 2, 1) := by decide +kernel
theorem dX2_roundsBehind_14 : decode cX2_roundsBehind 14 = .ok (.invokevirtual 55, 3) := by decide +kernel
theorem dX2_roundsBehind_17 : decode cX2_roundsBehind 17 = .ok (.aload_n 0, 1) := by decide +kernel
theorem dX2_roundsBehind_18 : decode cX2_roundsBehind 18 = .ok (.getfield 19, 3) := by decide +kernel
theorem dX2_roundsBehind_21 : decode cX2_roundsBehind 21 = .ok (.aload_n 0, 1) := by decide +kernel
theorem dX2_roundsBehind_22 : decode cX2_roundsBehind 22 = .ok (.getfield 32, 3) := by decide +kernel
theorem dX2_roundsBehind_25 : decode cX2_roundsBehind 25 = .ok (.invokevirtual 39, 3) := by decide +kernel
theorem dX2_roundsBehind_28 : decode cX2_roundsBehind 28 = .ok (.ireturn, 1) := by decide +kernel
theorem dX2_dearerFor_0 : decode cX2_dearerFor 0 = .ok (.aload_n 0, 1) := by decide +kernel
theorem dX2_dearerFor_1 : decode cX2_dearerFor 1 = .ok (.getfield 9, 3) := by decide +kernel
theorem dX2_dearerFor_4 : decode cX2_dearerFor 4 = .ok (.iload_n 1, 1) := by decide +kernel
theorem dX2_dearerFor_5 : decode cX2_dearerFor 5 = .ok (.iaload, 1) := by decide +kernel
theorem dX2_dearerFor_6 : decode cX2_dearerFor 6 = .ok (.aload_n 0, 1) := by decide +kernel
theorem dX2_dearerFor_7 : decode cX2_dearerFor 7 = .ok (.getfield 32, 3) := by decide +kernel
theorem dX2_dearerFor_10 : decode cX2_dearerFor 10 = .ok (.iload_n 1, 1) := by decide +kernel
theorem dX2_dearerFor_11 : decode cX2_dearerFor 11 = .ok (.invokevirtual 51, 3) := by decide +kernel
theorem dX2_dearerFor_14 : decode cX2_dearerFor 14 = .ok (.isub, 1) := by decide +kernel
theorem dX2_dearerFor_15 : decode cX2_dearerFor 15 = .ok (.ireturn, 1) := by decide +kernel
theorem dX2_harmInAll_0 : decode cX2_harmInAll 0 = .ok (.iconst 0, 1) := by decide +kernel
theorem dX2_harmInAll_1 : decode cX2_harmInAll 1 = .ok (.istore_n 1, 1) := by decide +kernel
theorem dX2_harmInAll_2 : decode cX2_harmInAll 2 = .ok (.iconst 0, 1) := by decide +kernel
theorem dX2_harmInAll_3 : decode cX2_harmInAll 3 = .ok (.istore_n 2, 1) := by decide +kernel
theorem dX2_harmInAll_4 : decode cX2_harmInAll 4 = .ok (.iload_n 2, 1) := by decide +kernel
theorem dX2_harmInAll_5 : decode cX2_harmInAll 5 = .ok (.aload_n 0, 1) := by decide +kernel
theorem dX2_harmInAll_6 : decode cX2_harmInAll 6 = .ok (.getfield 15, 3) := by decide +kernel
theorem dX2_harmInAll_9 : decode cX2_harmInAll 9 = .ok (.getfield 45, 3) := by decide +kernel
theorem dX2_harmInAll_12 : decode cX2_harmInAll 12 = .ok (.if_icmp .ge 31, 3) := by decide +kernel
theorem dX2_harmInAll_15 : decode cX2_harmInAll 15 = .ok (.iload_n 1, 1) := by decide +kernel
theorem dX2_harmInAll_16 : decode cX2_harmInAll 16 = .ok (.iconst 0, 1) := by decide +kernel
theorem dX2_harmInAll_17 : decode cX2_harmInAll 17 = .ok (.aload_n 0, 1) := by decide +kernel
theorem dX2_harmInAll_18 : decode cX2_harmInAll 18 = .ok (.iload_n 2, 1) := by decide +kernel
theorem dX2_harmInAll_19 : decode cX2_harmInAll 19 = .ok (.invokevirtual 59, 3) := by decide +kernel
theorem dX2_harmInAll_22 : decode cX2_harmInAll 22 = .ok (.invokestatic 62, 3) := by decide +kernel
theorem dX2_harmInAll_25 : decode cX2_harmInAll 25 = .ok (.aload_n 0, 1) := by decide +kernel
theorem dX2_harmInAll_26 : decode cX2_harmInAll 26 = .ok (.getfield 15, 3) := by decide +kernel
theorem dX2_harmInAll_29 : decode cX2_harmInAll 29 = .ok (.getfield 68, 3) := by decide +kernel
theorem dX2_harmInAll_32 : decode cX2_harmInAll 32 = .ok (.iload_n 2, 1) := by decide +kernel
theorem dX2_harmInAll_33 : decode cX2_harmInAll 33 = .ok (.iaload, 1) := by decide +kernel
theorem dX2_harmInAll_34 : decode cX2_harmInAll 34 = .ok (.imul, 1) := by decide +kernel
theorem dX2_harmInAll_35 : decode cX2_harmInAll 35 = .ok (.iadd, 1) := by decide +kernel
theorem dX2_harmInAll_36 : decode cX2_harmInAll 36 = .ok (.istore_n 1, 1) := by decide +kernel
theorem dX2_harmInAll_37 : decode cX2_harmInAll 37 = .ok (.iinc 2 1, 3) := by decide +kernel
theorem dX2_harmInAll_40 : decode cX2_harmInAll 40 = .ok (.goto (-36), 3) := by decide +kernel
theorem dX2_harmInAll_43 : decode cX2_harmInAll 43 = .ok (.iload_n 1, 1) := by decide +kernel
theorem dX2_harmInAll_44 : decode cX2_harmInAll 44 = .ok (.ireturn, 1) := by decide +kernel
theorem dX2_sortsHarmed_0 : decode cX2_sortsHarmed 0 = .ok (.iconst 0, 1) := by decide +kernel
theorem dX2_sortsHarmed_1 : decode cX2_sortsHarmed 1 = .ok (.istore_n 1, 1) := by decide +kernel
theorem dX2_sortsHarmed_2 : decode cX2_sortsHarmed 2 = .ok (.iconst 0, 1) := by decide +kernel
theorem dX2_sortsHarmed_3 : decode cX2_sortsHarmed 3 = .ok (.istore_n 2, 1) := by decide +kernel
theorem dX2_sortsHarmed_4 : decode cX2_sortsHarmed 4 = .ok (.iload_n 2, 1) := by decide +kernel
theorem dX2_sortsHarmed_5 : decode cX2_sortsHarmed 5 = .ok (.aload_n 0, 1) := by decide +kernel
theorem dX2_sortsHarmed_6 : decode cX2_sortsHarmed 6 = .ok (.getfield 15, 3) := by decide +kernel
theorem dX2_sortsHarmed_9 : decode cX2_sortsHarmed 9 = .ok (.getfield 45, 3) := by decide +kernel
theorem dX2_sortsHarmed_12 : decode cX2_sortsHarmed 12 = .ok (.if_icmp .ge 23, 3) := by decide +kernel
theorem dX2_sortsHarmed_15 : decode cX2_sortsHarmed 15 = .ok (.aload_n 0, 1) := by decide +kernel
theorem dX2_sortsHarmed_16 : decode cX2_sortsHarmed 16 = .ok (.iload_n 2, 1) := by decide +kernel
theorem dX2_sortsHarmed_17 : decode cX2_sortsHarmed 17 = .ok (.invokevirtual 59, 3) := by decide +kernel
theorem dX2_sortsHarmed_20 : decode cX2_sortsHarmed 20 = .ok (.ifCond .le 9, 3) := by decide +kernel
theorem dX2_sortsHarmed_23 : decode cX2_sortsHarmed 23 = .ok (.iload_n 1, 1) := by decide +kernel
theorem dX2_sortsHarmed_24 : decode cX2_sortsHarmed 24 = .ok (.iconst 1, 1) := by decide +kernel
theorem dX2_sortsHarmed_25 : decode cX2_sortsHarmed 25 = .ok (.iload_n 2, 1) := by decide +kernel
theorem dX2_sortsHarmed_26 : decode cX2_sortsHarmed 26 = .ok (.ishl, 1) := by decide +kernel
theorem dX2_sortsHarmed_27 : decode cX2_sortsHarmed 27 = .ok (.ior, 1) := by decide +kernel
theorem dX2_sortsHarmed_28 : decode cX2_sortsHarmed 28 = .ok (.istore_n 1, 1) := by decide +kernel
theorem dX2_sortsHarmed_29 : decode cX2_sortsHarmed 29 = .ok (.iinc 2 1, 3) := by decide +kernel
theorem dX2_sortsHarmed_32 : decode cX2_sortsHarmed 32 = .ok (.goto (-28), 3) := by decide +kernel
theorem dX2_sortsHarmed_35 : decode cX2_sortsHarmed 35 = .ok (.iload_n 1, 1) := by decide +kernel
theorem dX2_sortsHarmed_36 : decode cX2_sortsHarmed 36 = .ok (.ireturn, 1) := by decide +kernel
theorem dX2_harmOf_0 : decode cX2_harmOf 0 = .ok (.aload_n 0, 1) := by decide +kernel
theorem dX2_harmOf_1 : decode cX2_harmOf 1 = .ok (.getfield 32, 3) := by decide +kernel
theorem dX2_harmOf_4 : decode cX2_harmOf 4 = .ok (.aload_n 1, 1) := by decide +kernel
theorem dX2_harmOf_5 : decode cX2_harmOf 5 = .ok (.invokevirtual 35, 3) := by decide +kernel
theorem dX2_harmOf_8 : decode cX2_harmOf 8 = .ok (.aload_n 0, 1) := by decide +kernel
theorem dX2_harmOf_9 : decode cX2_harmOf 9 = .ok (.getfield 32, 3) := by decide +kernel
theorem dX2_harmOf_12 : decode cX2_harmOf 12 = .ok (.iload_n 3, 1) := by decide +kernel
theorem dX2_harmOf_13 : decode cX2_harmOf 13 = .ok (.iload_n 2, 1) := by decide +kernel
theorem dX2_harmOf_14 : decode cX2_harmOf 14 = .ok (.invokevirtual 55, 3) := by decide +kernel
theorem dX2_harmOf_17 : decode cX2_harmOf 17 = .ok (.aload_n 0, 1) := by decide +kernel
theorem dX2_harmOf_18 : decode cX2_harmOf 18 = .ok (.getfield 19, 3) := by decide +kernel
theorem dX2_harmOf_21 : decode cX2_harmOf 21 = .ok (.aload_n 0, 1) := by decide +kernel
theorem dX2_harmOf_22 : decode cX2_harmOf 22 = .ok (.getfield 32, 3) := by decide +kernel
theorem dX2_harmOf_25 : decode cX2_harmOf 25 = .ok (.invokevirtual 39, 3) := by decide +kernel
theorem dX2_harmOf_28 : decode cX2_harmOf 28 = .ok (.iconst (-1), 1) := by decide +kernel
theorem dX2_harmOf_29 : decode cX2_harmOf 29 = .ok (.if_icmp .ne 7, 3) := by decide +kernel
theorem dX2_harmOf_32 : decode cX2_harmOf 32 = .ok (.iconst (-1), 1) := by decide +kernel
theorem dX2_harmOf_33 : decode cX2_harmOf 33 = .ok (.goto 7, 3) := by decide +kernel
theorem dX2_harmOf_36 : decode cX2_harmOf 36 = .ok (.aload_n 0, 1) := by decide +kernel
theorem dX2_harmOf_37 : decode cX2_harmOf 37 = .ok (.invokevirtual 71, 3) := by decide +kernel
theorem dX2_harmOf_40 : decode cX2_harmOf 40 = .ok (.ireturn, 1) := by decide +kernel
theorem dX2_dearestWhenSold_0 : decode cX2_dearestWhenSold 0 = .ok (.aload_n 0, 1) := by decide +kernel
theorem dX2_dearestWhenSold_1 : decode cX2_dearestWhenSold 1 = .ok (.getfield 32, 3) := by decide +kernel
theorem dX2_dearestWhenSold_4 : decode cX2_dearestWhenSold 4 = .ok (.aload_n 1, 1) := by decide +kernel
theorem dX2_dearestWhenSold_5 : decode cX2_dearestWhenSold 5 = .ok (.invokevirtual 35, 3) := by decide +kernel
theorem dX2_dearestWhenSold_8 : decode cX2_dearestWhenSold 8 = .ok (.aload_n 0, 1) := by decide +kernel
theorem dX2_dearestWhenSold_9 : decode cX2_dearestWhenSold 9 = .ok (.getfield 32, 3) := by decide +kernel
theorem dX2_dearestWhenSold_12 : decode cX2_dearestWhenSold 12 = .ok (.iload_n 3, 1) := by decide +kernel
theorem dX2_dearestWhenSold_13 : decode cX2_dearestWhenSold 13 = .ok (.iload_n 2, 1) := by decide +kernel
theorem dX2_dearestWhenSold_14 : decode cX2_dearestWhenSold 14 = .ok (.invokevirtual 55, 3) := by decide +kernel
theorem dX2_dearestWhenSold_17 : decode cX2_dearestWhenSold 17 = .ok (.iconst 0, 1) := by decide +kernel
theorem dX2_dearestWhenSold_18 : decode cX2_dearestWhenSold 18 = .ok (.istore 6, 2) := by decide +kernel
theorem dX2_dearestWhenSold_20 : decode cX2_dearestWhenSold 20 = .ok (.iload 6, 2) := by decide +kernel
theorem dX2_dearestWhenSold_22 : decode cX2_dearestWhenSold 22 = .ok (.aload_n 0, 1) := by decide +kernel
theorem dX2_dearestWhenSold_23 : decode cX2_dearestWhenSold 23 = .ok (.getfield 15, 3) := by decide +kernel
theorem dX2_dearestWhenSold_26 : decode cX2_dearestWhenSold 26 = .ok (.getfield 75, 3) := by decide +kernel
theorem dX2_dearestWhenSold_29 : decode cX2_dearestWhenSold 29 = .ok (.if_icmp .ge 32, 3) := by decide +kernel
theorem dX2_dearestWhenSold_32 : decode cX2_dearestWhenSold 32 = .ok (.iload 5, 2) := by decide +kernel
theorem dX2_dearestWhenSold_34 : decode cX2_dearestWhenSold 34 = .ok (.iload 6, 2) := by decide +kernel
theorem dX2_dearestWhenSold_36 : decode cX2_dearestWhenSold 36 = .ok (.ishr, 1) := by decide +kernel
theorem dX2_dearestWhenSold_37 : decode cX2_dearestWhenSold 37 = .ok (.iconst 1, 1) := by decide +kernel
theorem dX2_dearestWhenSold_38 : decode cX2_dearestWhenSold 38 = .ok (.iand, 1) := by decide +kernel
theorem dX2_dearestWhenSold_39 : decode cX2_dearestWhenSold 39 = .ok (.iconst 1, 1) := by decide +kernel
theorem dX2_dearestWhenSold_40 : decode cX2_dearestWhenSold 40 = .ok (.if_icmp .ne 15, 3) := by decide +kernel
theorem dX2_dearestWhenSold_43 : decode cX2_dearestWhenSold 43 = .ok (.aload_n 0, 1) := by decide +kernel
theorem dX2_dearestWhenSold_44 : decode cX2_dearestWhenSold 44 = .ok (.getfield 32, 3) := by decide +kernel
theorem dX2_dearestWhenSold_47 : decode cX2_dearestWhenSold 47 = .ok (.getfield 78, 3) := by decide +kernel
theorem dX2_dearestWhenSold_50 : decode cX2_dearestWhenSold 50 = .ok (.iload 6, 2) := by decide +kernel
theorem dX2_dearestWhenSold_52 : decode cX2_dearestWhenSold 52 = .ok (.iload 4, 2) := by decide +kernel
theorem dX2_dearestWhenSold_54 : decode cX2_dearestWhenSold 54 = .ok (.iastore, 1) := by decide +kernel
theorem dX2_dearestWhenSold_55 : decode cX2_dearestWhenSold 55 = .ok (.iinc 6 1, 3) := by decide +kernel
theorem dX2_dearestWhenSold_58 : decode cX2_dearestWhenSold 58 = .ok (.goto (-38), 3) := by decide +kernel
theorem dX2_dearestWhenSold_61 : decode cX2_dearestWhenSold 61 = .ok (.aload_n 0, 1) := by decide +kernel
theorem dX2_dearestWhenSold_62 : decode cX2_dearestWhenSold 62 = .ok (.getfield 19, 3) := by decide +kernel
theorem dX2_dearestWhenSold_65 : decode cX2_dearestWhenSold 65 = .ok (.aload_n 0, 1) := by decide +kernel
theorem dX2_dearestWhenSold_66 : decode cX2_dearestWhenSold 66 = .ok (.getfield 32, 3) := by decide +kernel
theorem dX2_dearestWhenSold_69 : decode cX2_dearestWhenSold 69 = .ok (.invokevirtual 39, 3) := by decide +kernel
theorem dX2_dearestWhenSold_72 : decode cX2_dearestWhenSold 72 = .ok (.iconst (-1), 1) := by decide +kernel
theorem dX2_dearestWhenSold_73 : decode cX2_dearestWhenSold 73 = .ok (.if_icmp .ne 6, 3) := by decide +kernel
theorem dX2_dearestWhenSold_76 : decode cX2_dearestWhenSold 76 = .ok (.ldc 81, 2) := by decide +kernel
theorem dX2_dearestWhenSold_78 : decode cX2_dearestWhenSold 78 = .ok (.ireturn, 1) := by decide +kernel
theorem dX2_dearestWhenSold_79 : decode cX2_dearestWhenSold 79 = .ok (.iconst 0, 1) := by decide +kernel
theorem dX2_dearestWhenSold_80 : decode cX2_dearestWhenSold 80 = .ok (.istore 6, 2) := by decide +kernel
theorem dX2_dearestWhenSold_82 : decode cX2_dearestWhenSold 82 = .ok (.iconst 0, 1) := by decide +kernel
theorem dX2_dearestWhenSold_83 : decode cX2_dearestWhenSold 83 = .ok (.istore 7, 2) := by decide +kernel
theorem dX2_dearestWhenSold_85 : decode cX2_dearestWhenSold 85 = .ok (.iload 7, 2) := by decide +kernel
theorem dX2_dearestWhenSold_87 : decode cX2_dearestWhenSold 87 = .ok (.aload_n 0, 1) := by decide +kernel
theorem dX2_dearestWhenSold_88 : decode cX2_dearestWhenSold 88 = .ok (.getfield 15, 3) := by decide +kernel
theorem dX2_dearestWhenSold_91 : decode cX2_dearestWhenSold 91 = .ok (.getfield 45, 3) := by decide +kernel
theorem dX2_dearestWhenSold_94 : decode cX2_dearestWhenSold 94 = .ok (.if_icmp .ge 22, 3) := by decide +kernel
theorem dX2_dearestWhenSold_97 : decode cX2_dearestWhenSold 97 = .ok (.iload 6, 2) := by decide +kernel
theorem dX2_dearestWhenSold_99 : decode cX2_dearestWhenSold 99 = .ok (.aload_n 0, 1) := by decide +kernel
theorem dX2_dearestWhenSold_100 : decode cX2_dearestWhenSold 100 = .ok (.iload 7, 2) := by decide +kernel
theorem dX2_dearestWhenSold_102 : decode cX2_dearestWhenSold 102 = .ok (.invokevirtual 59, 3) := by decide +kernel
theorem dX2_dearestWhenSold_105 : decode cX2_dearestWhenSold 105 = .ok (.invokestatic 62, 3) := by decide +kernel
theorem dX2_dearestWhenSold_108 : decode cX2_dearestWhenSold 108 = .ok (.istore 6, 2) := by decide +kernel
theorem dX2_dearestWhenSold_110 : decode cX2_dearestWhenSold 110 = .ok (.iinc 7 1, 3) := by decide +kernel
theorem dX2_dearestWhenSold_113 : decode cX2_dearestWhenSold 113 = .ok (.goto (-28), 3) := by decide +kernel
theorem dX2_dearestWhenSold_116 : decode cX2_dearestWhenSold 116 = .ok (.iload 6, 2) := by decide +kernel
theorem dX2_dearestWhenSold_118 : decode cX2_dearestWhenSold 118 = .ok (.ireturn, 1) := by decide +kernel
theorem dX3_countSold_0 : decode cX3_countSold 0 = .ok (.iconst 0, 1) := by decide +kernel
theorem dX3_countSold_1 : decode cX3_countSold 1 = .ok (.istore_n 2, 1) := by decide +kernel
theorem dX3_countSold_2 : decode cX3_countSold 2 = .ok (.iload_n 2, 1) := by decide +kernel
theorem dX3_countSold_3 : decode cX3_countSold 3 = .ok (.bipush 6, 2) := by decide +kernel
theorem dX3_countSold_5 : decode cX3_countSold 5 = .ok (.if_icmp .ge 16, 3) := by decide +kernel
theorem dX3_countSold_8 : decode cX3_countSold 8 = .ok (.aload_n 0, 1) := by decide +kernel
theorem dX3_countSold_9 : decode cX3_countSold 9 = .ok (.getfield 9, 3) := by decide +kernel
theorem dX3_countSold_12 : decode cX3_countSold 12 = .ok (.iload_n 2, 1) := by decide +kernel
theorem dX3_countSold_13 : decode cX3_countSold 13 = .ok (.iconst 0, 1) := by decide +kernel
theorem dX3_countSold_14 : decode cX3_countSold 14 = .ok (.iastore, 1) := by decide +kernel
theorem dX3_countSold_15 : decode cX3_countSold 15 = .ok (.iinc 2 1, 3) := by decide +kernel
theorem dX3_countSold_18 : decode cX3_countSold 18 = .ok (.goto (-16), 3) := by decide +kernel
theorem dX3_countSold_21 : decode cX3_countSold 21 = .ok (.iconst 0, 1) := by decide +kernel
theorem dX3_countSold_22 : decode cX3_countSold 22 = .ok (.istore_n 2, 1) := by decide +kernel
theorem dX3_countSold_23 : decode cX3_countSold 23 = .ok (.iload_n 2, 1) := by decide +kernel
theorem dX3_countSold_24 : decode cX3_countSold 24 = .ok (.aload_n 0, 1) := by decide +kernel
theorem dX3_countSold_25 : decode cX3_countSold 25 = .ok (.getfield 25, 3) := by decide +kernel
theorem dX3_countSold_28 : decode cX3_countSold 28 = .ok (.getfield 59, 3) := by decide +kernel
theorem dX3_countSold_31 : decode cX3_countSold 31 = .ok (.if_icmp .ge 44, 3) := by decide +kernel
theorem dX3_countSold_34 : decode cX3_countSold 34 = .ok (.aload_n 1, 1) := by decide +kernel
theorem dX3_countSold_35 : decode cX3_countSold 35 = .ok (.iload_n 2, 1) := by decide +kernel
theorem dX3_countSold_36 : decode cX3_countSold 36 = .ok (.iconst (-1), 1) := by decide +kernel
theorem dX3_countSold_37 : decode cX3_countSold 37 = .ok (.invokevirtual 62, 3) := by decide +kernel
theorem dX3_countSold_40 : decode cX3_countSold 40 = .ok (.istore_n 3, 1) := by decide +kernel
theorem dX3_countSold_41 : decode cX3_countSold 41 = .ok (.iload_n 3, 1) := by decide +kernel
theorem dX3_countSold_42 : decode cX3_countSold 42 = .ok (.iconst (-1), 1) := by decide +kernel
theorem dX3_countSold_43 : decode cX3_countSold 43 = .ok (.if_icmp .eq 26, 3) := by decide +kernel
theorem dX3_countSold_46 : decode cX3_countSold 46 = .ok (.aload_n 0, 1) := by decide +kernel
theorem dX3_countSold_47 : decode cX3_countSold 47 = .ok (.getfield 9, 3) := by decide +kernel
theorem dX3_countSold_50 : decode cX3_countSold 50 = .ok (.aload_n 1, 1) := by decide +kernel
theorem dX3_countSold_51 : decode cX3_countSold 51 = .ok (.getfield 67, 3) := by decide +kernel
theorem dX3_countSold_54 : decode cX3_countSold 54 = .ok (.iload_n 3, 1) := by decide +kernel
theorem dX3_countSold_55 : decode cX3_countSold 55 = .ok (.iaload, 1) := by decide +kernel
theorem dX3_countSold_56 : decode cX3_countSold 56 = .ok (.dup2, 1) := by decide +kernel
theorem dX3_countSold_57 : decode cX3_countSold 57 = .ok (.iaload, 1) := by decide +kernel
theorem dX3_countSold_58 : decode cX3_countSold 58 = .ok (.aload_n 0, 1) := by decide +kernel
theorem dX3_countSold_59 : decode cX3_countSold 59 = .ok (.getfield 25, 3) := by decide +kernel
theorem dX3_countSold_62 : decode cX3_countSold 62 = .ok (.getfield 70, 3) := by decide +kernel
theorem dX3_countSold_65 : decode cX3_countSold 65 = .ok (.iload_n 2, 1) := by decide +kernel
theorem dX3_countSold_66 : decode cX3_countSold 66 = .ok (.iaload, 1) := by decide +kernel
theorem dX3_countSold_67 : decode cX3_countSold 67 = .ok (.iadd, 1) := by decide +kernel
theorem dX3_countSold_68 : decode cX3_countSold 68 = .ok (.iastore, 1) := by decide +kernel
theorem dX3_countSold_69 : decode cX3_countSold 69 = .ok (.iinc 2 1, 3) := by decide +kernel
theorem dX3_countSold_72 : decode cX3_countSold 72 = .ok (.goto (-49), 3) := by decide +kernel
theorem dX3_countSold_75 : decode cX3_countSold 75 = .ok (.return_, 1) := by decide +kernel
theorem dX3_hundredths_0 : decode cX3_hundredths 0 = .ok (.iload_n 1, 1) := by decide +kernel
theorem dX3_hundredths_1 : decode cX3_hundredths 1 = .ok (.ifCond .le 12, 3) := by decide +kernel
theorem dX3_hundredths_4 : decode cX3_hundredths 4 = .ok (.bipush 100, 2) := by decide +kernel
theorem dX3_hundredths_6 : decode cX3_hundredths 6 = .ok (.iload_n 0, 1) := by decide +kernel
theorem dX3_hundredths_7 : decode cX3_hundredths 7 = .ok (.imul, 1) := by decide +kernel
theorem dX3_hundredths_8 : decode cX3_hundredths 8 = .ok (.iload_n 1, 1) := by decide +kernel
theorem dX3_hundredths_9 : decode cX3_hundredths 9 = .ok (.idiv, 1) := by decide +kernel
theorem dX3_hundredths_10 : decode cX3_hundredths 10 = .ok (.goto 4, 3) := by decide +kernel
theorem dX3_hundredths_13 : decode cX3_hundredths 13 = .ok (.iconst 0, 1) := by decide +kernel
theorem dX3_hundredths_14 : decode cX3_hundredths 14 = .ok (.ireturn, 1) := by decide +kernel
theorem dJ9_abs_0f7a4_0 : decode cJ9_abs_0f7a4 0 = .ok (.iload_n 0, 1) := by decide +kernel
theorem dJ9_abs_0f7a4_1 : decode cJ9_abs_0f7a4 1 = .ok (.ifCond .ge 8, 3) := by decide +kernel
theorem dJ9_abs_0f7a4_4 : decode cJ9_abs_0f7a4 4 = .ok (.iload_n 0, 1) := by decide +kernel
theorem dJ9_abs_0f7a4_5 : decode cJ9_abs_0f7a4 5 = .ok (.ineg, 1) := by decide +kernel
theorem dJ9_abs_0f7a4_6 : decode cJ9_abs_0f7a4 6 = .ok (.goto 4, 3) := by decide +kernel
theorem dJ9_abs_0f7a4_9 : decode cJ9_abs_0f7a4 9 = .ok (.iload_n 0, 1) := by decide +kernel
theorem dJ9_abs_0f7a4_10 : decode cJ9_abs_0f7a4 10 = .ok (.ireturn, 1) := by decide +kernel
theorem dX3_leastDistance_0 : decode cX3_leastDistance 0 = .ok (.bipush 99, 2) := by decide +kernel
theorem dX3_leastDistance_2 : decode cX3_leastDistance 2 = .ok (.istore 4, 2) := by decide +kernel
theorem dX3_leastDistance_4 : decode cX3_leastDistance 4 = .ok (.iconst 0, 1) := by decide +kernel
theorem dX3_leastDistance_5 : decode cX3_leastDistance 5 = .ok (.istore 5, 2) := by decide +kernel
theorem dX3_leastDistance_7 : decode cX3_leastDistance 7 = .ok (.iload 5, 2) := by decide +kernel
theorem dX3_leastDistance_9 : decode cX3_leastDistance 9 = .ok (.aload_n 0, 1) := by decide +kernel
theorem dX3_leastDistance_10 : decode cX3_leastDistance 10 = .ok (.getfield 25, 3) := by decide +kernel
theorem dX3_leastDistance_13 : decode cX3_leastDistance 13 = .ok (.getfield 73, 3) := by decide +kernel
theorem dX3_leastDistance_16 : decode cX3_leastDistance 16 = .ok (.if_icmp .ge 113, 3) := by decide +kernel
theorem dX3_leastDistance_19 : decode cX3_leastDistance 19 = .ok (.iconst 0, 1) := by decide +kernel
theorem dX3_leastDistance_20 : decode cX3_leastDistance 20 = .ok (.istore 6, 2) := by decide +kernel
theorem dX3_leastDistance_22 : decode cX3_leastDistance 22 = .ok (.iload 6, 2) := by decide +kernel
theorem dX3_leastDistance_24 : decode cX3_leastDistance 24 = .ok (.aload_n 0, 1) := by decide +kernel
theorem dX3_leastDistance_25 : decode cX3_leastDistance 25 = .ok (.getfield 25, 3) := by decide +kernel
theorem dX3_leastDistance_28 : decode cX3_leastDistance 28 = .ok (.getfield 73, 3) := by decide +kernel
theorem dX3_leastDistance_31 : decode cX3_leastDistance 31 = .ok (.if_icmp .ge 92, 3) := by decide +kernel
theorem dX3_leastDistance_34 : decode cX3_leastDistance 34 = .ok (.aload_n 1, 1) := by decide +kernel
theorem dX3_leastDistance_35 : decode cX3_leastDistance 35 = .ok (.getfield 67, 3) := by decide +kernel
theorem dX3_leastDistance_38 : decode cX3_leastDistance 38 = .ok (.iload 5, 2) := by decide +kernel
theorem dX3_leastDistance_40 : decode cX3_leastDistance 40 = .ok (.iaload, 1) := by decide +kernel
theorem dX3_leastDistance_41 : decode cX3_leastDistance 41 = .ok (.iload_n 2, 1) := by decide +kernel
theorem dX3_leastDistance_42 : decode cX3_leastDistance 42 = .ok (.if_icmp .ne 18, 3) := by decide +kernel
theorem dX3_leastDistance_45 : decode cX3_leastDistance 45 = .ok (.aload_n 1, 1) := by decide +kernel
theorem dX3_leastDistance_46 : decode cX3_leastDistance 46 = .ok (.getfield 67, 3) := by decide +kernel
theorem dX3_leastDistance_49 : decode cX3_leastDistance 49 = .ok (.iload 6, 2) := by decide +kernel
theorem dX3_leastDistance_51 : decode cX3_leastDistance 51 = .ok (.iaload, 1) := by decide +kernel
theorem dX3_leastDistance_52 : decode cX3_leastDistance 52 = .ok (.iload_n 3, 1) := by decide +kernel
theorem dX3_leastDistance_53 : decode cX3_leastDistance 53 = .ok (.if_icmp .ne 7, 3) := by decide +kernel
theorem dX3_leastDistance_56 : decode cX3_leastDistance 56 = .ok (.iconst 1, 1) := by decide +kernel
theorem dX3_leastDistance_57 : decode cX3_leastDistance 57 = .ok (.goto 4, 3) := by decide +kernel
theorem dX3_leastDistance_60 : decode cX3_leastDistance 60 = .ok (.iconst 0, 1) := by decide +kernel
theorem dX3_leastDistance_61 : decode cX3_leastDistance 61 = .ok (.istore 7, 2) := by decide +kernel
theorem dX3_leastDistance_63 : decode cX3_leastDistance 63 = .ok (.iload 7, 2) := by decide +kernel
theorem dX3_leastDistance_65 : decode cX3_leastDistance 65 = .ok (.ifCond .eq 52, 3) := by decide +kernel
theorem dX3_leastDistance_68 : decode cX3_leastDistance 68 = .ok (.aload_n 1, 1) := by decide +kernel
theorem dX3_leastDistance_69 : decode cX3_leastDistance 69 = .ok (.iload 5, 2) := by decide +kernel
theorem dX3_leastDistance_71 : decode cX3_leastDistance 71 = .ok (.invokevirtual 76, 3) := by decide +kernel
theorem dX3_leastDistance_74 : decode cX3_leastDistance 74 = .ok (.ifCond .eq 43, 3) := by decide +kernel
theorem dX3_leastDistance_77 : decode cX3_leastDistance 77 = .ok (.aload_n 1, 1) := by decide +kernel
theorem dX3_leastDistance_78 : decode cX3_leastDistance 78 = .ok (.iload 6, 2) := by decide +kernel
theorem dX3_leastDistance_80 : decode cX3_leastDistance 80 = .ok (.invokevirtual 76, 3) := by decide +kernel
theorem dX3_leastDistance_83 : decode cX3_leastDistance 83 = .ok (.ifCond .eq 34, 3) := by decide +kernel
theorem dX3_leastDistance_86 : decode cX3_leastDistance 86 = .ok (.iload 4, 2) := by decide +kernel
theorem dX3_leastDistance_88 : decode cX3_leastDistance 88 = .ok (.aload_n 0, 1) := by decide +kernel
theorem dX3_leastDistance_89 : decode cX3_leastDistance 89 = .ok (.getfield 25, 3) := by decide +kernel
theorem dX3_leastDistance_92 : decode cX3_leastDistance 92 = .ok (.getfield 80, 3) := by decide +kernel
theorem dX3_leastDistance_95 : decode cX3_leastDistance 95 = .ok (.iload 5, 2) := by decide +kernel
theorem dX3_leastDistance_97 : decode cX3_leastDistance 97 = .ok (.iaload, 1) := by decide +kernel
theorem dX3_leastDistance_98 : decode cX3_leastDistance 98 = .ok (.aload_n 0, 1) := by decide +kernel
theorem dX3_leastDistance_99 : decode cX3_leastDistance 99 = .ok (.getfield 25, 3) := by decide +kernel
theorem dX3_leastDistance_102 : decode cX3_leastDistance 102 = .ok (.getfield 80, 3) := by decide +kernel
theorem dX3_leastDistance_105 : decode cX3_leastDistance 105 = .ok (.iload 6, 2) := by decide +kernel
theorem dX3_leastDistance_107 : decode cX3_leastDistance 107 = .ok (.iaload, 1) := by decide +kernel
theorem dX3_leastDistance_108 : decode cX3_leastDistance 108 = .ok (.isub, 1) := by decide +kernel
theorem dX3_leastDistance_109 : decode cX3_leastDistance 109 = .ok (.invokestatic 83, 3) := by decide +kernel
theorem dX3_leastDistance_112 : decode cX3_leastDistance 112 = .ok (.invokestatic 89, 3) := by decide +kernel
theorem dX3_leastDistance_115 : decode cX3_leastDistance 115 = .ok (.istore 4, 2) := by decide +kernel
theorem dX3_leastDistance_117 : decode cX3_leastDistance 117 = .ok (.iinc 6 1, 3) := by decide +kernel
theorem dX3_leastDistance_120 : decode cX3_leastDistance 120 = .ok (.goto (-98), 3) := by decide +kernel
theorem dX3_leastDistance_123 : decode cX3_leastDistance 123 = .ok (.iinc 5 1, 3) := by decide +kernel
theorem dX3_leastDistance_126 : decode cX3_leastDistance 126 = .ok (.goto (-119), 3) := by decide +kernel
theorem dX3_leastDistance_129 : decode cX3_leastDistance 129 = .ok (.iload 4, 2) := by decide +kernel
theorem dX3_leastDistance_131 : decode cX3_leastDistance 131 = .ok (.ireturn, 1) := by decide +kernel
theorem dX3_weigh_0 : decode cX3_weigh 0 = .ok (.aload_n 0, 1) := by decide +kernel
theorem dX3_weigh_1 : decode cX3_weigh 1 = .ok (.aload_n 1, 1) := by decide +kernel
theorem dX3_weigh_2 : decode cX3_weigh 2 = .ok (.invokevirtual 29, 3) := by decide +kernel
theorem dX3_weigh_5 : decode cX3_weigh 5 = .ok (.iconst 0, 1) := by decide +kernel
theorem dX3_weigh_6 : decode cX3_weigh 6 = .ok (.istore 4, 2) := by decide +kernel
theorem dX3_weigh_8 : decode cX3_weigh 8 = .ok (.aload_n 0, 1) := by decide +kernel
theorem dX3_weigh_9 : decode cX3_weigh 9 = .ok (.aload_n 0, 1) := by decide +kernel
theorem dX3_weigh_10 : decode cX3_weigh 10 = .ok (.getfield 9, 3) := by decide +kernel
theorem dX3_weigh_13 : decode cX3_weigh 13 = .ok (.iload_n 2, 1) := by decide +kernel
theorem dX3_weigh_14 : decode cX3_weigh 14 = .ok (.iaload, 1) := by decide +kernel
theorem dX3_weigh_15 : decode cX3_weigh 15 = .ok (.ifCond .le 16, 3) := by decide +kernel
theorem dX3_weigh_18 : decode cX3_weigh 18 = .ok (.aload_n 0, 1) := by decide +kernel
theorem dX3_weigh_19 : decode cX3_weigh 19 = .ok (.getfield 9, 3) := by decide +kernel
theorem dX3_weigh_22 : decode cX3_weigh 22 = .ok (.iload_n 3, 1) := by decide +kernel
theorem dX3_weigh_23 : decode cX3_weigh 23 = .ok (.iaload, 1) := by decide +kernel
theorem dX3_weigh_24 : decode cX3_weigh 24 = .ok (.ifCond .le 7, 3) := by decide +kernel
theorem dX3_weigh_27 : decode cX3_weigh 27 = .ok (.iconst (-1), 1) := by decide +kernel
theorem dX3_weigh_28 : decode cX3_weigh 28 = .ok (.goto 4, 3) := by decide +kernel
theorem dX3_weigh_31 : decode cX3_weigh 31 = .ok (.iconst 0, 1) := by decide +kernel
theorem dX3_weigh_32 : decode cX3_weigh 32 = .ok (.putfield 33, 3) := by decide +kernel
theorem dX3_weigh_35 : decode cX3_weigh 35 = .ok (.iconst 0, 1) := by decide +kernel
theorem dX3_weigh_36 : decode cX3_weigh 36 = .ok (.istore 5, 2) := by decide +kernel
theorem dX3_weigh_38 : decode cX3_weigh 38 = .ok (.iload 5, 2) := by decide +kernel
theorem dX3_weigh_40 : decode cX3_weigh 40 = .ok (.aload_n 0, 1) := by decide +kernel
theorem dX3_weigh_41 : decode cX3_weigh 41 = .ok (.getfield 25, 3) := by decide +kernel
theorem dX3_weigh_44 : decode cX3_weigh 44 = .ok (.getfield 37, 3) := by decide +kernel
theorem dX3_weigh_47 : decode cX3_weigh 47 = .ok (.if_icmp .ge 45, 3) := by decide +kernel
theorem dX3_weigh_50 : decode cX3_weigh 50 = .ok (.iload 4, 2) := by decide +kernel
theorem dX3_weigh_52 : decode cX3_weigh 52 = .ok (.aload_n 0, 1) := by decide +kernel
theorem dX3_weigh_53 : decode cX3_weigh 53 = .ok (.getfield 9, 3) := by decide +kernel
theorem dX3_weigh_56 : decode cX3_weigh 56 = .ok (.iload 5, 2) := by decide +kernel
theorem dX3_weigh_58 : decode cX3_weigh 58 = .ok (.iaload, 1) := by decide +kernel
theorem dX3_weigh_59 : decode cX3_weigh 59 = .ok (.iadd, 1) := by decide +kernel
theorem dX3_weigh_60 : decode cX3_weigh 60 = .ok (.istore 4, 2) := by decide +kernel
theorem dX3_weigh_62 : decode cX3_weigh 62 = .ok (.aload_n 0, 1) := by decide +kernel
theorem dX3_weigh_63 : decode cX3_weigh 63 = .ok (.dup, 1) := by decide +kernel
theorem dX3_weigh_64 : decode cX3_weigh 64 = .ok (.getfield 33, 3) := by decide +kernel
theorem dX3_weigh_67 : decode cX3_weigh 67 = .ok (.aload_n 0, 1) := by decide +kernel
theorem dX3_weigh_68 : decode cX3_weigh 68 = .ok (.getfield 9, 3) := by decide +kernel
theorem dX3_weigh_71 : decode cX3_weigh 71 = .ok (.iload 5, 2) := by decide +kernel
theorem dX3_weigh_73 : decode cX3_weigh 73 = .ok (.iaload, 1) := by decide +kernel
theorem dX3_weigh_74 : decode cX3_weigh 74 = .ok (.ifCond .le 7, 3) := by decide +kernel
theorem dX3_weigh_77 : decode cX3_weigh 77 = .ok (.iconst 1, 1) := by decide +kernel
theorem dX3_weigh_78 : decode cX3_weigh 78 = .ok (.goto 4, 3) := by decide +kernel
theorem dX3_weigh_81 : decode cX3_weigh 81 = .ok (.iconst 0, 1) := by decide +kernel
theorem dX3_weigh_82 : decode cX3_weigh 82 = .ok (.iadd, 1) := by decide +kernel
theorem dX3_weigh_83 : decode cX3_weigh 83 = .ok (.putfield 33, 3) := by decide +kernel
theorem dX3_weigh_86 : decode cX3_weigh 86 = .ok (.iinc 5 1, 3) := by decide +kernel
theorem dX3_weigh_89 : decode cX3_weigh 89 = .ok (.goto (-51), 3) := by decide +kernel
theorem dX3_weigh_92 : decode cX3_weigh 92 = .ok (.aload_n 0, 1) := by decide +kernel
theorem dX3_weigh_93 : decode cX3_weigh 93 = .ok (.aload_n 0, 1) := by decide +kernel
theorem dX3_weigh_94 : decode cX3_weigh 94 = .ok (.getfield 9, 3) := by decide +kernel
theorem dX3_weigh_97 : decode cX3_weigh 97 = .ok (.iload_n 2, 1) := by decide +kernel
theorem dX3_weigh_98 : decode cX3_weigh 98 = .ok (.iaload, 1) := by decide +kernel
theorem dX3_weigh_99 : decode cX3_weigh 99 = .ok (.aload_n 0, 1) := by decide +kernel
theorem dX3_weigh_100 : decode cX3_weigh 100 = .ok (.getfield 9, 3) := by decide +kernel
theorem dX3_weigh_103 : decode cX3_weigh 103 = .ok (.iload_n 3, 1) := by decide +kernel
theorem dX3_weigh_104 : decode cX3_weigh 104 = .ok (.iaload, 1) := by decide +kernel
theorem dX3_weigh_105 : decode cX3_weigh 105 = .ok (.iadd, 1) := by decide +kernel
theorem dX3_weigh_106 : decode cX3_weigh 106 = .ok (.iload 4, 2) := by decide +kernel
theorem dX3_weigh_108 : decode cX3_weigh 108 = .ok (.invokestatic 42, 3) := by decide +kernel
theorem dX3_weigh_111 : decode cX3_weigh 111 = .ok (.putfield 46, 3) := by decide +kernel
theorem dX3_weigh_114 : decode cX3_weigh 114 = .ok (.aload_n 0, 1) := by decide +kernel
theorem dX3_weigh_115 : decode cX3_weigh 115 = .ok (.iconst 2, 1) := by decide +kernel
theorem dX3_weigh_116 : decode cX3_weigh 116 = .ok (.aload_n 0, 1) := by decide +kernel
theorem dX3_weigh_117 : decode cX3_weigh 117 = .ok (.getfield 9, 3) := by decide +kernel
theorem dX3_weigh_120 : decode cX3_weigh 120 = .ok (.iload_n 2, 1) := by decide +kernel
theorem dX3_weigh_121 : decode cX3_weigh 121 = .ok (.iaload, 1) := by decide +kernel
theorem dX3_weigh_122 : decode cX3_weigh 122 = .ok (.iload 4, 2) := by decide +kernel
theorem dX3_weigh_124 : decode cX3_weigh 124 = .ok (.invokestatic 42, 3) := by decide +kernel
theorem dX3_weigh_127 : decode cX3_weigh 127 = .ok (.imul, 1) := by decide +kernel
theorem dX3_weigh_128 : decode cX3_weigh 128 = .ok (.aload_n 0, 1) := by decide +kernel
theorem dX3_weigh_129 : decode cX3_weigh 129 = .ok (.getfield 9, 3) := by decide +kernel
theorem dX3_weigh_132 : decode cX3_weigh 132 = .ok (.iload_n 3, 1) := by decide +kernel
theorem dX3_weigh_133 : decode cX3_weigh 133 = .ok (.iaload, 1) := by decide +kernel
theorem dX3_weigh_134 : decode cX3_weigh 134 = .ok (.iload 4, 2) := by decide +kernel
theorem dX3_weigh_136 : decode cX3_weigh 136 = .ok (.invokestatic 42, 3) := by decide +kernel
theorem dX3_weigh_139 : decode cX3_weigh 139 = .ok (.imul, 1) := by decide +kernel
theorem dX3_weigh_140 : decode cX3_weigh 140 = .ok (.putfield 49, 3) := by decide +kernel
theorem dX3_weigh_143 : decode cX3_weigh 143 = .ok (.aload_n 0, 1) := by decide +kernel
theorem dX3_weigh_144 : decode cX3_weigh 144 = .ok (.aload_n 0, 1) := by decide +kernel
theorem dX3_weigh_145 : decode cX3_weigh 145 = .ok (.aload_n 1, 1) := by decide +kernel
theorem dX3_weigh_146 : decode cX3_weigh 146 = .ok (.iload_n 2, 1) := by decide +kernel
theorem dX3_weigh_147 : decode cX3_weigh 147 = .ok (.iload_n 3, 1) := by decide +kernel
theorem dX3_weigh_148 : decode cX3_weigh 148 = .ok (.invokevirtual 52, 3) := by decide +kernel
theorem dX3_weigh_151 : decode cX3_weigh 151 = .ok (.putfield 56, 3) := by decide +kernel
theorem dX3_weigh_154 : decode cX3_weigh 154 = .ok (.return_, 1) := by decide +kernel
theorem dX3_startTerms_0 : decode cX3_startTerms 0 = .ok (.aload_n 0, 1) := by decide +kernel
theorem dX3_startTerms_1 : decode cX3_startTerms 1 = .ok (.getfield 15, 3) := by decide +kernel
theorem dX3_startTerms_4 : decode cX3_startTerms 4 = .ok (.aload_n 0, 1) := by decide +kernel
theorem dX3_startTerms_5 : decode cX3_startTerms 5 = .ok (.getfield 92, 3) := by decide +kernel
theorem dX3_startTerms_8 : decode cX3_startTerms 8 = .ok (.iconst 0, 1) := by decide +kernel
theorem dX3_startTerms_9 : decode cX3_startTerms 9 = .ok (.bastore, 1) := by decide +kernel
theorem dX3_startTerms_10 : decode cX3_startTerms 10 = .ok (.aload_n 0, 1) := by decide +kernel
theorem dX3_startTerms_11 : decode cX3_startTerms 11 = .ok (.getfield 19, 3) := by decide +kernel
theorem dX3_startTerms_14 : decode cX3_startTerms 14 = .ok (.aload_n 0, 1) := by decide +kernel
theorem dX3_startTerms_15 : decode cX3_startTerms 15 = .ok (.getfield 92, 3) := by decide +kernel
theorem dX3_startTerms_18 : decode cX3_startTerms 18 = .ok (.iconst 1, 1) := by decide +kernel
theorem dX3_startTerms_19 : decode cX3_startTerms 19 = .ok (.bastore, 1) := by decide +kernel
theorem dX3_startTerms_20 : decode cX3_startTerms 20 = .ok (.aload_n 0, 1) := by decide +kernel
theorem dX3_startTerms_21 : decode cX3_startTerms 21 = .ok (.getfield 22, 3) := by decide +kernel
theorem dX3_startTerms_24 : decode cX3_startTerms 24 = .ok (.aload_n 0, 1) := by decide +kernel
theorem dX3_startTerms_25 : decode cX3_startTerms 25 = .ok (.getfield 92, 3) := by decide +kernel
theorem dX3_startTerms_28 : decode cX3_startTerms 28 = .ok (.iconst 0, 1) := by decide +kernel
theorem dX3_startTerms_29 : decode cX3_startTerms 29 = .ok (.bastore, 1) := by decide +kernel
theorem dX3_startTerms_30 : decode cX3_startTerms 30 = .ok (.return_, 1) := by decide +kernel
theorem dX3_termsHold_0 : decode cX3_termsHold 0 = .ok (.aload_n 0, 1) := by decide +kernel
theorem dX3_termsHold_1 : decode cX3_termsHold 1 = .ok (.getfield 15, 3) := by decide +kernel
theorem dX3_termsHold_4 : decode cX3_termsHold 4 = .ok (.aload_n 0, 1) := by decide +kernel
theorem dX3_termsHold_5 : decode cX3_termsHold 5 = .ok (.getfield 92, 3) := by decide +kernel
theorem dX3_termsHold_8 : decode cX3_termsHold 8 = .ok (.baload, 1) := by decide +kernel
theorem dX3_termsHold_9 : decode cX3_termsHold 9 = .ok (.ifCond .ne 15, 3) := by decide +kernel
theorem dX3_termsHold_12 : decode cX3_termsHold 12 = .ok (.aload_n 0, 1) := by decide +kernel
theorem dX3_termsHold_13 : decode cX3_termsHold 13 = .ok (.getfield 19, 3) := by decide +kernel
theorem dX3_termsHold_16 : decode cX3_termsHold 16 = .ok (.aload_n 0, 1) := by decide +kernel
theorem dX3_termsHold_17 : decode cX3_termsHold 17 = .ok (.getfield 92, 3) := by decide +kernel
theorem dX3_termsHold_20 : decode cX3_termsHold 20 = .ok (.baload, 1) := by decide +kernel
theorem dX3_termsHold_21 : decode cX3_termsHold 21 = .ok (.ifCond .eq 7, 3) := by decide +kernel
theorem dX3_termsHold_24 : decode cX3_termsHold 24 = .ok (.iconst 1, 1) := by decide +kernel
theorem dX3_termsHold_25 : decode cX3_termsHold 25 = .ok (.goto 4, 3) := by decide +kernel
theorem dX3_termsHold_28 : decode cX3_termsHold 28 = .ok (.iconst 0, 1) := by decide +kernel
theorem dX3_termsHold_29 : decode cX3_termsHold 29 = .ok (.ireturn, 1) := by decide +kernel
theorem dX3_takeFactor_0 : decode cX3_takeFactor 0 = .ok (.aload_n 0, 1) := by decide +kernel
theorem dX3_takeFactor_1 : decode cX3_takeFactor 1 = .ok (.getfield 19, 3) := by decide +kernel
theorem dX3_takeFactor_4 : decode cX3_takeFactor 4 = .ok (.aload_n 0, 1) := by decide +kernel
theorem dX3_takeFactor_5 : decode cX3_takeFactor 5 = .ok (.getfield 92, 3) := by decide +kernel
theorem dX3_takeFactor_8 : decode cX3_takeFactor 8 = .ok (.aload_n 0, 1) := by decide +kernel
theorem dX3_takeFactor_9 : decode cX3_takeFactor 9 = .ok (.getfield 19, 3) := by decide +kernel
theorem dX3_takeFactor_12 : decode cX3_takeFactor 12 = .ok (.aload_n 0, 1) := by decide +kernel
theorem dX3_takeFactor_13 : decode cX3_takeFactor 13 = .ok (.getfield 92, 3) := by decide +kernel
theorem dX3_takeFactor_16 : decode cX3_takeFactor 16 = .ok (.baload, 1) := by decide +kernel
theorem dX3_takeFactor_17 : decode cX3_takeFactor 17 = .ok (.ifCond .eq 20, 3) := by decide +kernel
theorem dX3_takeFactor_20 : decode cX3_takeFactor 20 = .ok (.iload_n 1, 1) := by decide +kernel
theorem dX3_takeFactor_21 : decode cX3_takeFactor 21 = .ok (.aload_n 0, 1) := by decide +kernel
theorem dX3_takeFactor_22 : decode cX3_takeFactor 22 = .ok (.getfield 22, 3) := by decide +kernel
theorem dX3_takeFactor_25 : decode cX3_takeFactor 25 = .ok (.aload_n 0, 1) := by decide +kernel
theorem dX3_takeFactor_26 : decode cX3_takeFactor 26 = .ok (.getfield 92, 3) := by decide +kernel
theorem dX3_takeFactor_29 : decode cX3_takeFactor 29 = .ok (.baload, 1) := by decide +kernel
theorem dX3_takeFactor_30 : decode cX3_takeFactor 30 = .ok (.if_icmp .eq 7, 3) := by decide +kernel
theorem dX3_takeFactor_33 : decode cX3_takeFactor 33 = .ok (.iconst 1, 1) := by decide +kernel
theorem dX3_takeFactor_34 : decode cX3_takeFactor 34 = .ok (.goto 4, 3) := by decide +kernel
theorem dX3_takeFactor_37 : decode cX3_takeFactor 37 = .ok (.iconst 0, 1) := by decide +kernel
theorem dX3_takeFactor_38 : decode cX3_takeFactor 38 = .ok (.bastore, 1) := by decide +kernel
theorem dX3_takeFactor_39 : decode cX3_takeFactor 39 = .ok (.aload_n 0, 1) := by decide +kernel
theorem dX3_takeFactor_40 : decode cX3_takeFactor 40 = .ok (.getfield 22, 3) := by decide +kernel
theorem dX3_takeFactor_43 : decode cX3_takeFactor 43 = .ok (.aload_n 0, 1) := by decide +kernel
theorem dX3_takeFactor_44 : decode cX3_takeFactor 44 = .ok (.getfield 92, 3) := by decide +kernel
theorem dX3_takeFactor_47 : decode cX3_takeFactor 47 = .ok (.iconst 0, 1) := by decide +kernel
theorem dX3_takeFactor_48 : decode cX3_takeFactor 48 = .ok (.bastore, 1) := by decide +kernel
theorem dX3_takeFactor_49 : decode cX3_takeFactor 49 = .ok (.return_, 1) := by decide +kernel
theorem dX3_comparisonHolds_0 : decode cX3_comparisonHolds 0 = .ok (.iconst 0, 1) := by decide +kernel
theorem dX3_comparisonHolds_1 : decode cX3_comparisonHolds 1 = .ok (.istore_n 3, 1) := by decide +kernel
theorem dX3_comparisonHolds_2 : decode cX3_comparisonHolds 2 = .ok (.iload_n 2, 1) := by decide +kernel
theorem dX3_comparisonHolds_3 : decode cX3_comparisonHolds 3 = .ok (.iconst 1, 1) := by decide +kernel
theorem dX3_comparisonHolds_4 : decode cX3_comparisonHolds 4 = .ok (.iadd, 1) := by decide +kernel
theorem dX3_comparisonHolds_5 : decode cX3_comparisonHolds 5 = .ok (.istore 4, 2) := by decide +kernel
theorem dX3_comparisonHolds_7 : decode cX3_comparisonHolds 7 = .ok (.iload 4, 2) := by decide +kernel
theorem dX3_comparisonHolds_9 : decode cX3_comparisonHolds 9 = .ok (.aload_n 1, 1) := by decide +kernel
theorem dX3_comparisonHolds_10 : decode cX3_comparisonHolds 10 = .ok (.getfield 98, 3) := by decide +kernel
theorem dX3_comparisonHolds_13 : decode cX3_comparisonHolds 13 = .ok (.if_icmp .ge 36, 3) := by decide +kernel
theorem dX3_comparisonHolds_16 : decode cX3_comparisonHolds 16 = .ok (.aload_n 1, 1) := by decide +kernel
theorem dX3_comparisonHolds_17 : decode cX3_comparisonHolds 17 = .ok (.iload 4, 2) := by decide +kernel
theorem dX3_comparisonHolds_19 : decode cX3_comparisonHolds 19 = .ok (.invokevirtual 111, 3) := by decide +kernel
theorem dX3_comparisonHolds_22 : decode cX3_comparisonHolds 22 = .ok (.invokestatic 123, 3) := by decide +kernel
theorem dX3_comparisonHolds_25 : decode cX3_comparisonHolds 25 = .ok (.ifCond .eq 24, 3) := by decide +kernel
theorem dX3_comparisonHolds_28 : decode cX3_comparisonHolds 28 = .ok (.bipush 10, 2) := by decide +kernel
theorem dX3_comparisonHolds_30 : decode cX3_comparisonHolds 30 = .ok (.iload_n 3, 1) := by decide +kernel
theorem dX3_comparisonHolds_31 : decode cX3_comparisonHolds 31 = .ok (.imul, 1) := by decide +kernel
theorem dX3_comparisonHolds_32 : decode cX3_comparisonHolds 32 = .ok (.aload_n 1, 1) := by decide +kernel
theorem dX3_comparisonHolds_33 : decode cX3_comparisonHolds 33 = .ok (.iload 4, 2) := by decide +kernel
theorem dX3_comparisonHolds_35 : decode cX3_comparisonHolds 35 = .ok (.invokevirtual 111, 3) := by decide +kernel
theorem dX3_comparisonHolds_38 : decode cX3_comparisonHolds 38 = .ok (.iadd, 1) := by decide +kernel
theorem dX3_comparisonHolds_39 : decode cX3_comparisonHolds 39 = .ok (.bipush 48, 2) := by decide +kernel
theorem dX3_comparisonHolds_41 : decode cX3_comparisonHolds 41 = .ok (.isub, 1) := by decide +kernel
theorem dX3_comparisonHolds_42 : decode cX3_comparisonHolds 42 = .ok (.istore_n 3, 1) := by decide +kernel
theorem dX3_comparisonHolds_43 : decode cX3_comparisonHolds 43 = .ok (.iinc 4 1, 3) := by decide +kernel
theorem dX3_comparisonHolds_46 : decode cX3_comparisonHolds 46 = .ok (.goto (-39), 3) := by decide +kernel
theorem dX3_comparisonHolds_49 : decode cX3_comparisonHolds 49 = .ok (.aload_n 1, 1) := by decide +kernel
theorem dX3_comparisonHolds_50 : decode cX3_comparisonHolds 50 = .ok (.iload_n 2, 1) := by decide +kernel
theorem dX3_comparisonHolds_51 : decode cX3_comparisonHolds 51 = .ok (.invokevirtual 111, 3) := by decide +kernel
theorem dX3_comparisonHolds_54 : decode cX3_comparisonHolds 54 = .ok (.lookupswitch 48 #[(60, 26), (61, 37)], 26) := by decide +kernel
theorem dX3_comparisonHolds_80 : decode cX3_comparisonHolds 80 = .ok (.iload_n 0, 1) := by decide +kernel
theorem dX3_comparisonHolds_81 : decode cX3_comparisonHolds 81 = .ok (.iload_n 3, 1) := by decide +kernel
theorem dX3_comparisonHolds_82 : decode cX3_comparisonHolds 82 = .ok (.if_icmp .ge 7, 3) := by decide +kernel
theorem dX3_comparisonHolds_85 : decode cX3_comparisonHolds 85 = .ok (.iconst 1, 1) := by decide +kernel
theorem dX3_comparisonHolds_86 : decode cX3_comparisonHolds 86 = .ok (.goto 4, 3) := by decide +kernel
theorem dX3_comparisonHolds_89 : decode cX3_comparisonHolds 89 = .ok (.iconst 0, 1) := by decide +kernel
theorem dX3_comparisonHolds_90 : decode cX3_comparisonHolds 90 = .ok (.ireturn, 1) := by decide +kernel
theorem dX3_comparisonHolds_91 : decode cX3_comparisonHolds 91 = .ok (.iload_n 0, 1) := by decide +kernel
theorem dX3_comparisonHolds_92 : decode cX3_comparisonHolds 92 = .ok (.iload_n 3, 1) := by decide +kernel
theorem dX3_comparisonHolds_93 : decode cX3_comparisonHolds 93 = .ok (.if_icmp .ne 7, 3) := by decide +kernel
theorem dX3_comparisonHolds_96 : decode cX3_comparisonHolds 96 = .ok (.iconst 1, 1) := by decide +kernel
theorem dX3_comparisonHolds_97 : decode cX3_comparisonHolds 97 = .ok (.goto 4, 3) := by decide +kernel
theorem dX3_comparisonHolds_100 : decode cX3_comparisonHolds 100 = .ok (.iconst 0, 1) := by decide +kernel
theorem dX3_comparisonHolds_101 : decode cX3_comparisonHolds 101 = .ok (.ireturn, 1) := by decide +kernel
theorem dX3_comparisonHolds_102 : decode cX3_comparisonHolds 102 = .ok (.iload_n 0, 1) := by decide +kernel
theorem dX3_comparisonHolds_103 : decode cX3_comparisonHolds 103 = .ok (.iload_n 3, 1) := by decide +kernel
theorem dX3_comparisonHolds_104 : decode cX3_comparisonHolds 104 = .ok (.if_icmp .le 7, 3) := by decide +kernel
theorem dX3_comparisonHolds_107 : decode cX3_comparisonHolds 107 = .ok (.iconst 1, 1) := by decide +kernel
theorem dX3_comparisonHolds_108 : decode cX3_comparisonHolds 108 = .ok (.goto 4, 3) := by decide +kernel
theorem dX3_comparisonHolds_111 : decode cX3_comparisonHolds 111 = .ok (.iconst 0, 1) := by decide +kernel
theorem dX3_comparisonHolds_112 : decode cX3_comparisonHolds 112 = .ok (.ireturn, 1) := by decide +kernel
theorem dX3_readLetter_0 : decode cX3_readLetter 0 = .ok (.aload_n 1, 1) := by decide +kernel
theorem dX3_readLetter_1 : decode cX3_readLetter 1 = .ok (.iload_n 2, 1) := by decide +kernel
theorem dX3_readLetter_2 : decode cX3_readLetter 2 = .ok (.invokevirtual 111, 3) := by decide +kernel
theorem dX3_readLetter_5 : decode cX3_readLetter 5 = .ok (.lookupswitch 283 #[(33, 75), (40, 155), (41, 181), (100, 265), (111, 229), (114, 247), (115, 211), (124, 104)], 75) := by decide +kernel
theorem dX3_readLetter_80 : decode cX3_readLetter 80 = .ok (.aload_n 0, 1) := by decide +kernel
theorem dX3_readLetter_81 : decode cX3_readLetter 81 = .ok (.getfield 22, 3) := by decide +kernel
theorem dX3_readLetter_84 : decode cX3_readLetter 84 = .ok (.aload_n 0, 1) := by decide +kernel
theorem dX3_readLetter_85 : decode cX3_readLetter 85 = .ok (.getfield 92, 3) := by decide +kernel
theorem dX3_readLetter_88 : decode cX3_readLetter 88 = .ok (.aload_n 0, 1) := by decide +kernel
theorem dX3_readLetter_89 : decode cX3_readLetter 89 = .ok (.getfield 22, 3) := by decide +kernel
theorem dX3_readLetter_92 : decode cX3_readLetter 92 = .ok (.aload_n 0, 1) := by decide +kernel
theorem dX3_readLetter_93 : decode cX3_readLetter 93 = .ok (.getfield 92, 3) := by decide +kernel
theorem dX3_readLetter_96 : decode cX3_readLetter 96 = .ok (.baload, 1) := by decide +kernel
theorem dX3_readLetter_97 : decode cX3_readLetter 97 = .ok (.ifCond .ne 7, 3) := by decide +kernel
theorem dX3_readLetter_100 : decode cX3_readLetter 100 = .ok (.iconst 1, 1) := by decide +kernel
theorem dX3_readLetter_101 : decode cX3_readLetter 101 = .ok (.goto 4, 3) := by decide +kernel
theorem dX3_readLetter_104 : decode cX3_readLetter 104 = .ok (.iconst 0, 1) := by decide +kernel
theorem dX3_readLetter_105 : decode cX3_readLetter 105 = .ok (.bastore, 1) := by decide +kernel
theorem dX3_readLetter_106 : decode cX3_readLetter 106 = .ok (.goto 182, 3) := by decide +kernel
theorem dX3_readLetter_109 : decode cX3_readLetter 109 = .ok (.aload_n 0, 1) := by decide +kernel
theorem dX3_readLetter_110 : decode cX3_readLetter 110 = .ok (.getfield 15, 3) := by decide +kernel
theorem dX3_readLetter_113 : decode cX3_readLetter 113 = .ok (.aload_n 0, 1) := by decide +kernel
theorem dX3_readLetter_114 : decode cX3_readLetter 114 = .ok (.getfield 92, 3) := by decide +kernel
theorem dX3_readLetter_117 : decode cX3_readLetter 117 = .ok (.aload_n 0, 1) := by decide +kernel
theorem dX3_readLetter_118 : decode cX3_readLetter 118 = .ok (.getfield 15, 3) := by decide +kernel
theorem dX3_readLetter_121 : decode cX3_readLetter 121 = .ok (.aload_n 0, 1) := by decide +kernel
theorem dX3_readLetter_122 : decode cX3_readLetter 122 = .ok (.getfield 92, 3) := by decide +kernel
theorem dX3_readLetter_125 : decode cX3_readLetter 125 = .ok (.baload, 1) := by decide +kernel
theorem dX3_readLetter_126 : decode cX3_readLetter 126 = .ok (.ifCond .ne 15, 3) := by decide +kernel
theorem dX3_readLetter_129 : decode cX3_readLetter 129 = .ok (.aload_n 0, 1) := by decide +kernel
theorem dX3_readLetter_130 : decode cX3_readLetter 130 = .ok (.getfield 19, 3) := by decide +kernel
theorem dX3_readLetter_133 : decode cX3_readLetter 133 = .ok (.aload_n 0, 1) := by decide +kernel
theorem dX3_readLetter_134 : decode cX3_readLetter 134 = .ok (.getfield 92, 3) := by decide +kernel
theorem dX3_readLetter_137 : decode cX3_readLetter 137 = .ok (.baload, 1) := by decide +kernel
theorem dX3_readLetter_138 : decode cX3_readLetter 138 = .ok (.ifCond .eq 7, 3) := by decide +kernel
theorem dX3_readLetter_141 : decode cX3_readLetter 141 = .ok (.iconst 1, 1) := by decide +kernel
theorem dX3_readLetter_142 : decode cX3_readLetter 142 = .ok (.goto 4, 3) := by decide +kernel
theorem dX3_readLetter_145 : decode cX3_readLetter 145 = .ok (.iconst 0, 1) := by decide +kernel
theorem dX3_readLetter_146 : decode cX3_readLetter 146 = .ok (.bastore, 1) := by decide +kernel
theorem dX3_readLetter_147 : decode cX3_readLetter 147 = .ok (.aload_n 0, 1) := by decide +kernel
theorem dX3_readLetter_148 : decode cX3_readLetter 148 = .ok (.getfield 19, 3) := by decide +kernel
theorem dX3_readLetter_151 : decode cX3_readLetter 151 = .ok (.aload_n 0, 1) := by decide +kernel
theorem dX3_readLetter_152 : decode cX3_readLetter 152 = .ok (.getfield 92, 3) := by decide +kernel
theorem dX3_readLetter_155 : decode cX3_readLetter 155 = .ok (.iconst 1, 1) := by decide +kernel
theorem dX3_readLetter_156 : decode cX3_readLetter 156 = .ok (.bastore, 1) := by decide +kernel
theorem dX3_readLetter_157 : decode cX3_readLetter 157 = .ok (.goto 131, 3) := by decide +kernel
theorem dX3_readLetter_160 : decode cX3_readLetter 160 = .ok (.aload_n 0, 1) := by decide +kernel
theorem dX3_readLetter_161 : decode cX3_readLetter 161 = .ok (.getfield 92, 3) := by decide +kernel
theorem dX3_readLetter_164 : decode cX3_readLetter 164 = .ok (.bipush 50, 2) := by decide +kernel
theorem dX3_readLetter_166 : decode cX3_readLetter 166 = .ok (.if_icmp .ge 122, 3) := by decide +kernel
theorem dX3_readLetter_169 : decode cX3_readLetter 169 = .ok (.aload_n 0, 1) := by decide +kernel
theorem dX3_readLetter_170 : decode cX3_readLetter 170 = .ok (.dup, 1) := by decide +kernel
theorem dX3_readLetter_171 : decode cX3_readLetter 171 = .ok (.getfield 92, 3) := by decide +kernel
theorem dX3_readLetter_174 : decode cX3_readLetter 174 = .ok (.iconst 1, 1) := by decide +kernel
theorem dX3_readLetter_175 : decode cX3_readLetter 175 = .ok (.iadd, 1) := by decide +kernel
theorem dX3_readLetter_176 : decode cX3_readLetter 176 = .ok (.putfield 92, 3) := by decide +kernel
theorem dX3_readLetter_179 : decode cX3_readLetter 179 = .ok (.aload_n 0, 1) := by decide +kernel
theorem dX3_readLetter_180 : decode cX3_readLetter 180 = .ok (.invokevirtual 95, 3) := by decide +kernel
theorem dX3_readLetter_183 : decode cX3_readLetter 183 = .ok (.goto 105, 3) := by decide +kernel
theorem dX3_readLetter_186 : decode cX3_readLetter 186 = .ok (.aload_n 0, 1) := by decide +kernel
theorem dX3_readLetter_187 : decode cX3_readLetter 187 = .ok (.invokevirtual 107, 3) := by decide +kernel
theorem dX3_readLetter_190 : decode cX3_readLetter 190 = .ok (.istore_n 3, 1) := by decide +kernel
theorem dX3_readLetter_191 : decode cX3_readLetter 191 = .ok (.aload_n 0, 1) := by decide +kernel
theorem dX3_readLetter_192 : decode cX3_readLetter 192 = .ok (.getfield 92, 3) := by decide +kernel
theorem dX3_readLetter_195 : decode cX3_readLetter 195 = .ok (.ifCond .le 93, 3) := by decide +kernel
theorem dX3_readLetter_198 : decode cX3_readLetter 198 = .ok (.aload_n 0, 1) := by decide +kernel
theorem dX3_readLetter_199 : decode cX3_readLetter 199 = .ok (.dup, 1) := by decide +kernel
theorem dX3_readLetter_200 : decode cX3_readLetter 200 = .ok (.getfield 92, 3) := by decide +kernel
theorem dX3_readLetter_203 : decode cX3_readLetter 203 = .ok (.iconst 1, 1) := by decide +kernel
theorem dX3_readLetter_204 : decode cX3_readLetter 204 = .ok (.isub, 1) := by decide +kernel
theorem dX3_readLetter_205 : decode cX3_readLetter 205 = .ok (.putfield 92, 3) := by decide +kernel
theorem dX3_readLetter_208 : decode cX3_readLetter 208 = .ok (.aload_n 0, 1) := by decide +kernel
theorem dX3_readLetter_209 : decode cX3_readLetter 209 = .ok (.iload_n 3, 1) := by decide +kernel
theorem dX3_readLetter_210 : decode cX3_readLetter 210 = .ok (.invokevirtual 115, 3) := by decide +kernel
theorem dX3_readLetter_213 : decode cX3_readLetter 213 = .ok (.goto 75, 3) := by decide +kernel
theorem dX3_readLetter_216 : decode cX3_readLetter 216 = .ok (.aload_n 0, 1) := by decide +kernel
theorem dX3_readLetter_217 : decode cX3_readLetter 217 = .ok (.aload_n 0, 1) := by decide +kernel
theorem dX3_readLetter_218 : decode cX3_readLetter 218 = .ok (.getfield 46, 3) := by decide +kernel
theorem dX3_readLetter_221 : decode cX3_readLetter 221 = .ok (.aload_n 1, 1) := by decide +kernel
theorem dX3_readLetter_222 : decode cX3_readLetter 222 = .ok (.iload_n 2, 1) := by decide +kernel
theorem dX3_readLetter_223 : decode cX3_readLetter 223 = .ok (.iconst 1, 1) := by decide +kernel
theorem dX3_readLetter_224 : decode cX3_readLetter 224 = .ok (.iadd, 1) := by decide +kernel
theorem dX3_readLetter_225 : decode cX3_readLetter 225 = .ok (.invokestatic 119, 3) := by decide +kernel
theorem dX3_readLetter_228 : decode cX3_readLetter 228 = .ok (.invokevirtual 115, 3) := by decide +kernel
theorem dX3_readLetter_231 : decode cX3_readLetter 231 = .ok (.goto 57, 3) := by decide +kernel
theorem dX3_readLetter_234 : decode cX3_readLetter 234 = .ok (.aload_n 0, 1) := by decide +kernel
theorem dX3_readLetter_235 : decode cX3_readLetter 235 = .ok (.aload_n 0, 1) := by decide +kernel
theorem dX3_readLetter_236 : decode cX3_readLetter 236 = .ok (.getfield 33, 3) := by decide +kernel
theorem dX3_readLetter_239 : decode cX3_readLetter 239 = .ok (.aload_n 1, 1) := by decide +kernel
theorem dX3_readLetter_240 : decode cX3_readLetter 240 = .ok (.iload_n 2, 1) := by decide +kernel
theorem dX3_readLetter_241 : decode cX3_readLetter 241 = .ok (.iconst 1, 1) := by decide +kernel
theorem dX3_readLetter_242 : decode cX3_readLetter 242 = .ok (.iadd, 1) := by decide +kernel
theorem dX3_readLetter_243 : decode cX3_readLetter 243 = .ok (.invokestatic 119, 3) := by decide +kernel
theorem dX3_readLetter_246 : decode cX3_readLetter 246 = .ok (.invokevirtual 115, 3) := by decide +kernel
theorem dX3_readLetter_249 : decode cX3_readLetter 249 = .ok (.goto 39, 3) := by decide +kernel
theorem dX3_readLetter_252 : decode cX3_readLetter 252 = .ok (.aload_n 0, 1) := by decide +kernel
theorem dX3_readLetter_253 : decode cX3_readLetter 253 = .ok (.aload_n 0, 1) := by decide +kernel
theorem dX3_readLetter_254 : decode cX3_readLetter 254 = .ok (.getfield 49, 3) := by decide +kernel
theorem dX3_readLetter_257 : decode cX3_readLetter 257 = .ok (.aload_n 1, 1) := by decide +kernel
theorem dX3_readLetter_258 : decode cX3_readLetter 258 = .ok (.iload_n 2, 1) := by decide +kernel
theorem dX3_readLetter_259 : decode cX3_readLetter 259 = .ok (.iconst 1, 1) := by decide +kernel
theorem dX3_readLetter_260 : decode cX3_readLetter 260 = .ok (.iadd, 1) := by decide +kernel
theorem dX3_readLetter_261 : decode cX3_readLetter 261 = .ok (.invokestatic 119, 3) := by decide +kernel
theorem dX3_readLetter_264 : decode cX3_readLetter 264 = .ok (.invokevirtual 115, 3) := by decide +kernel
theorem dX3_readLetter_267 : decode cX3_readLetter 267 = .ok (.goto 21, 3) := by decide +kernel
theorem dX3_readLetter_270 : decode cX3_readLetter 270 = .ok (.aload_n 0, 1) := by decide +kernel
theorem dX3_readLetter_271 : decode cX3_readLetter 271 = .ok (.aload_n 0, 1) := by decide +kernel
theorem dX3_readLetter_272 : decode cX3_readLetter 272 = .ok (.getfield 56, 3) := by decide +kernel
theorem dX3_readLetter_275 : decode cX3_readLetter 275 = .ok (.aload_n 1, 1) := by decide +kernel
theorem dX3_readLetter_276 : decode cX3_readLetter 276 = .ok (.iload_n 2, 1) := by decide +kernel
theorem dX3_readLetter_277 : decode cX3_readLetter 277 = .ok (.iconst 1, 1) := by decide +kernel
theorem dX3_readLetter_278 : decode cX3_readLetter 278 = .ok (.iadd, 1) := by decide +kernel
theorem dX3_readLetter_279 : decode cX3_readLetter 279 = .ok (.invokestatic 119, 3) := by decide +kernel
theorem dX3_readLetter_282 : decode cX3_readLetter 282 = .ok (.invokevirtual 115, 3) := by decide +kernel
theorem dX3_readLetter_285 : decode cX3_readLetter 285 = .ok (.goto 3, 3) := by decide +kernel
theorem dX3_readLetter_288 : decode cX3_readLetter 288 = .ok (.return_, 1) := by decide +kernel
theorem dX3_holds_0 : decode cX3_holds 0 = .ok (.aload_n 0, 1) := by decide +kernel
theorem dX3_holds_1 : decode cX3_holds 1 = .ok (.iconst 0, 1) := by decide +kernel
theorem dX3_holds_2 : decode cX3_holds 2 = .ok (.putfield 92, 3) := by decide +kernel
theorem dX3_holds_5 : decode cX3_holds 5 = .ok (.aload_n 0, 1) := by decide +kernel
theorem dX3_holds_6 : decode cX3_holds 6 = .ok (.invokevirtual 95, 3) := by decide +kernel
theorem dX3_holds_9 : decode cX3_holds 9 = .ok (.iconst 0, 1) := by decide +kernel
theorem dX3_holds_10 : decode cX3_holds 10 = .ok (.istore_n 2, 1) := by decide +kernel
theorem dX3_holds_11 : decode cX3_holds 11 = .ok (.iload_n 2, 1) := by decide +kernel
theorem dX3_holds_12 : decode cX3_holds 12 = .ok (.aload_n 1, 1) := by decide +kernel
theorem dX3_holds_13 : decode cX3_holds 13 = .ok (.getfield 98, 3) := by decide +kernel
theorem dX3_holds_16 : decode cX3_holds 16 = .ok (.if_icmp .ge 15, 3) := by decide +kernel
theorem dX3_holds_19 : decode cX3_holds 19 = .ok (.aload_n 0, 1) := by decide +kernel
theorem dX3_holds_20 : decode cX3_holds 20 = .ok (.aload_n 1, 1) := by decide +kernel
theorem dX3_holds_21 : decode cX3_holds 21 = .ok (.iload_n 2, 1) := by decide +kernel
theorem dX3_holds_22 : decode cX3_holds 22 = .ok (.invokevirtual 103, 3) := by decide +kernel
theorem dX3_holds_25 : decode cX3_holds 25 = .ok (.iinc 2 1, 3) := by decide +kernel
theorem dX3_holds_28 : decode cX3_holds 28 = .ok (.goto (-17), 3) := by decide +kernel
theorem dX3_holds_31 : decode cX3_holds 31 = .ok (.aload_n 0, 1) := by decide +kernel
theorem dX3_holds_32 : decode cX3_holds 32 = .ok (.invokevirtual 107, 3) := by decide +kernel
theorem dX3_holds_35 : decode cX3_holds 35 = .ok (.ireturn, 1) := by decide +kernel
theorem dX4_setOf_0 : decode cX4_setOf 0 = .ok (.iconst 0, 1) := by decide +kernel
theorem dX4_setOf_1 : decode cX4_setOf 1 = .ok (.istore_n 2, 1) := by decide +kernel
theorem dX4_setOf_2 : decode cX4_setOf 2 = .ok (.iconst 0, 1) := by decide +kernel
theorem dX4_setOf_3 : decode cX4_setOf 3 = .ok (.istore_n 3, 1) := by decide +kernel
theorem dX4_setOf_4 : decode cX4_setOf 4 = .ok (.iload_n 3, 1) := by decide +kernel
theorem dX4_setOf_5 : decode cX4_setOf 5 = .ok (.aload_n 0, 1) := by decide +kernel
theorem dX4_setOf_6 : decode cX4_setOf 6 = .ok (.getfield 22, 3) := by decide +kernel
theorem dX4_setOf_9 : decode cX4_setOf 9 = .ok (.getfield 26, 3) := by decide +kernel
theorem dX4_setOf_12 : decode cX4_setOf 12 = .ok (.if_icmp .ge 25, 3) := by decide +kernel
theorem dX4_setOf_15 : decode cX4_setOf 15 = .ok (.aload_n 0, 1) := by decide +kernel
theorem dX4_setOf_16 : decode cX4_setOf 16 = .ok (.getfield 15, 3) := by decide +kernel
theorem dX4_setOf_19 : decode cX4_setOf 19 = .ok (.iload_n 3, 1) := by decide +kernel
theorem dX4_setOf_20 : decode cX4_setOf 20 = .ok (.iaload, 1) := by decide +kernel
theorem dX4_setOf_21 : decode cX4_setOf 21 = .ok (.iload_n 1, 1) := by decide +kernel
theorem dX4_setOf_22 : decode cX4_setOf 22 = .ok (.if_icmp .ne 9, 3) := by decide +kernel
theorem dX4_setOf_25 : decode cX4_setOf 25 = .ok (.iload_n 2, 1) := by decide +kernel
theorem dX4_setOf_26 : decode cX4_setOf 26 = .ok (.iconst 1, 1) := by decide +kernel
theorem dX4_setOf_27 : decode cX4_setOf 27 = .ok (.iload_n 3, 1) := by decide +kernel
theorem dX4_setOf_28 : decode cX4_setOf 28 = .ok (.ishl, 1) := by decide +kernel
theorem dX4_setOf_29 : decode cX4_setOf 29 = .ok (.ior, 1) := by decide +kernel
theorem dX4_setOf_30 : decode cX4_setOf 30 = .ok (.istore_n 2, 1) := by decide +kernel
theorem dX4_setOf_31 : decode cX4_setOf 31 = .ok (.iinc 3 1, 3) := by decide +kernel
theorem dX4_setOf_34 : decode cX4_setOf 34 = .ok (.goto (-30), 3) := by decide +kernel
theorem dX4_setOf_37 : decode cX4_setOf 37 = .ok (.iload_n 2, 1) := by decide +kernel
theorem dX4_setOf_38 : decode cX4_setOf 38 = .ok (.ireturn, 1) := by decide +kernel
theorem dJ6_bitCount_0f7a4_0 : decode cJ6_bitCount_0f7a4 0 = .ok (.iload_n 0, 1) := by decide +kernel
theorem dJ6_bitCount_0f7a4_1 : decode cJ6_bitCount_0f7a4 1 = .ok (.iload_n 0, 1) := by decide +kernel
theorem dJ6_bitCount_0f7a4_2 : decode cJ6_bitCount_0f7a4 2 = .ok (.iconst 1, 1) := by decide +kernel
theorem dJ6_bitCount_0f7a4_3 : decode cJ6_bitCount_0f7a4 3 = .ok (.iushr, 1) := by decide +kernel
theorem dJ6_bitCount_0f7a4_4 : decode cJ6_bitCount_0f7a4 4 = .ok (.ldc_w 265, 3) := by decide +kernel
theorem dJ6_bitCount_0f7a4_7 : decode cJ6_bitCount_0f7a4 7 = .ok (.iand, 1) := by decide +kernel
theorem dJ6_bitCount_0f7a4_8 : decode cJ6_bitCount_0f7a4 8 = .ok (.isub, 1) := by decide +kernel
theorem dJ6_bitCount_0f7a4_9 : decode cJ6_bitCount_0f7a4 9 = .ok (.istore_n 0, 1) := by decide +kernel
theorem dJ6_bitCount_0f7a4_10 : decode cJ6_bitCount_0f7a4 10 = .ok (.iload_n 0, 1) := by decide +kernel
theorem dJ6_bitCount_0f7a4_11 : decode cJ6_bitCount_0f7a4 11 = .ok (.ldc_w 266, 3) := by decide +kernel
theorem dJ6_bitCount_0f7a4_14 : decode cJ6_bitCount_0f7a4 14 = .ok (.iand, 1) := by decide +kernel
theorem dJ6_bitCount_0f7a4_15 : decode cJ6_bitCount_0f7a4 15 = .ok (.iload_n 0, 1) := by decide +kernel
theorem dJ6_bitCount_0f7a4_16 : decode cJ6_bitCount_0f7a4 16 = .ok (.iconst 2, 1) := by decide +kernel
theorem dJ6_bitCount_0f7a4_17 : decode cJ6_bitCount_0f7a4 17 = .ok (.iushr, 1) := by decide +kernel
theorem dJ6_bitCount_0f7a4_18 : decode cJ6_bitCount_0f7a4 18 = .ok (.ldc_w 266, 3) := by decide +kernel
theorem dJ6_bitCount_0f7a4_21 : decode cJ6_bitCount_0f7a4 21 = .ok (.iand, 1) := by decide +kernel
theorem dJ6_bitCount_0f7a4_22 : decode cJ6_bitCount_0f7a4 22 = .ok (.iadd, 1) := by decide +kernel
theorem dJ6_bitCount_0f7a4_23 : decode cJ6_bitCount_0f7a4 23 = .ok (.istore_n 0, 1) := by decide +kernel
theorem dJ6_bitCount_0f7a4_24 : decode cJ6_bitCount_0f7a4 24 = .ok (.iload_n 0, 1) := by decide +kernel
theorem dJ6_bitCount_0f7a4_25 : decode cJ6_bitCount_0f7a4 25 = .ok (.iload_n 0, 1) := by decide +kernel
theorem dJ6_bitCount_0f7a4_26 : decode cJ6_bitCount_0f7a4 26 = .ok (.iconst 4, 1) := by decide +kernel
theorem dJ6_bitCount_0f7a4_27 : decode cJ6_bitCount_0f7a4 27 = .ok (.iushr, 1) := by decide +kernel
theorem dJ6_bitCount_0f7a4_28 : decode cJ6_bitCount_0f7a4 28 = .ok (.iadd, 1) := by decide +kernel
theorem dJ6_bitCount_0f7a4_29 : decode cJ6_bitCount_0f7a4 29 = .ok (.ldc_w 267, 3) := by decide +kernel
theorem dJ6_bitCount_0f7a4_32 : decode cJ6_bitCount_0f7a4 32 = .ok (.iand, 1) := by decide +kernel
theorem dJ6_bitCount_0f7a4_33 : decode cJ6_bitCount_0f7a4 33 = .ok (.istore_n 0, 1) := by decide +kernel
theorem dJ6_bitCount_0f7a4_34 : decode cJ6_bitCount_0f7a4 34 = .ok (.iload_n 0, 1) := by decide +kernel
theorem dJ6_bitCount_0f7a4_35 : decode cJ6_bitCount_0f7a4 35 = .ok (.iload_n 0, 1) := by decide +kernel
theorem dJ6_bitCount_0f7a4_36 : decode cJ6_bitCount_0f7a4 36 = .ok (.bipush 8, 2) := by decide +kernel
theorem dJ6_bitCount_0f7a4_38 : decode cJ6_bitCount_0f7a4 38 = .ok (.iushr, 1) := by decide +kernel
theorem dJ6_bitCount_0f7a4_39 : decode cJ6_bitCount_0f7a4 39 = .ok (.iadd, 1) := by decide +kernel
theorem dJ6_bitCount_0f7a4_40 : decode cJ6_bitCount_0f7a4 40 = .ok (.istore_n 0, 1) := by decide +kernel
theorem dJ6_bitCount_0f7a4_41 : decode cJ6_bitCount_0f7a4 41 = .ok (.iload_n 0, 1) := by decide +kernel
theorem dJ6_bitCount_0f7a4_42 : decode cJ6_bitCount_0f7a4 42 = .ok (.iload_n 0, 1) := by decide +kernel
theorem dJ6_bitCount_0f7a4_43 : decode cJ6_bitCount_0f7a4 43 = .ok (.bipush 16, 2) := by decide +kernel
theorem dJ6_bitCount_0f7a4_45 : decode cJ6_bitCount_0f7a4 45 = .ok (.iushr, 1) := by decide +kernel
theorem dJ6_bitCount_0f7a4_46 : decode cJ6_bitCount_0f7a4 46 = .ok (.iadd, 1) := by decide +kernel
theorem dJ6_bitCount_0f7a4_47 : decode cJ6_bitCount_0f7a4 47 = .ok (.istore_n 0, 1) := by decide +kernel
theorem dJ6_bitCount_0f7a4_48 : decode cJ6_bitCount_0f7a4 48 = .ok (.iload_n 0, 1) := by decide +kernel
theorem dJ6_bitCount_0f7a4_49 : decode cJ6_bitCount_0f7a4 49 = .ok (.bipush 63, 2) := by decide +kernel
theorem dJ6_bitCount_0f7a4_51 : decode cJ6_bitCount_0f7a4 51 = .ok (.iand, 1) := by decide +kernel
theorem dJ6_bitCount_0f7a4_52 : decode cJ6_bitCount_0f7a4 52 = .ok (.ireturn, 1) := by decide +kernel
theorem dX4_shopsOf_0 : decode cX4_shopsOf 0 = .ok (.aload_n 0, 1) := by decide +kernel
theorem dX4_shopsOf_1 : decode cX4_shopsOf 1 = .ok (.iload_n 1, 1) := by decide +kernel
theorem dX4_shopsOf_2 : decode cX4_shopsOf 2 = .ok (.invokevirtual 32, 3) := by decide +kernel
theorem dX4_shopsOf_5 : decode cX4_shopsOf 5 = .ok (.invokestatic 36, 3) := by decide +kernel
theorem dX4_shopsOf_8 : decode cX4_shopsOf 8 = .ok (.ireturn, 1) := by decide +kernel
theorem dX4_openShops_0 : decode cX4_openShops 0 = .ok (.iconst 0, 1) := by decide +kernel
theorem dX4_openShops_1 : decode cX4_openShops 1 = .ok (.istore_n 1, 1) := by decide +kernel
theorem dX4_openShops_2 : decode cX4_openShops 2 = .ok (.iconst 0, 1) := by decide +kernel
theorem dX4_openShops_3 : decode cX4_openShops 3 = .ok (.istore_n 2, 1) := by decide +kernel
theorem dX4_openShops_4 : decode cX4_openShops 4 = .ok (.iload_n 2, 1) := by decide +kernel
theorem dX4_openShops_5 : decode cX4_openShops 5 = .ok (.aload_n 0, 1) := by decide +kernel
theorem dX4_openShops_6 : decode cX4_openShops 6 = .ok (.getfield 22, 3) := by decide +kernel
theorem dX4_openShops_9 : decode cX4_openShops 9 = .ok (.getfield 26, 3) := by decide +kernel
theorem dX4_openShops_12 : decode cX4_openShops 12 = .ok (.if_icmp .ge 23, 3) := by decide +kernel
theorem dX4_openShops_15 : decode cX4_openShops 15 = .ok (.aload_n 0, 1) := by decide +kernel
theorem dX4_openShops_16 : decode cX4_openShops 16 = .ok (.iload_n 2, 1) := by decide +kernel
theorem dX4_openShops_17 : decode cX4_openShops 17 = .ok (.invokevirtual 44, 3) := by decide +kernel
theorem dX4_openShops_20 : decode cX4_openShops 20 = .ok (.ifCond .eq 9, 3) := by decide +kernel
theorem dX4_openShops_23 : decode cX4_openShops 23 = .ok (.iload_n 1, 1) := by decide +kernel
theorem dX4_openShops_24 : decode cX4_openShops 24 = .ok (.iconst 1, 1) := by decide +kernel
theorem dX4_openShops_25 : decode cX4_openShops 25 = .ok (.iload_n 2, 1) := by decide +kernel
theorem dX4_openShops_26 : decode cX4_openShops 26 = .ok (.ishl, 1) := by decide +kernel
theorem dX4_openShops_27 : decode cX4_openShops 27 = .ok (.ior, 1) := by decide +kernel
theorem dX4_openShops_28 : decode cX4_openShops 28 = .ok (.istore_n 1, 1) := by decide +kernel
theorem dX4_openShops_29 : decode cX4_openShops 29 = .ok (.iinc 2 1, 3) := by decide +kernel
theorem dX4_openShops_32 : decode cX4_openShops 32 = .ok (.goto (-28), 3) := by decide +kernel
theorem dX4_openShops_35 : decode cX4_openShops 35 = .ok (.iload_n 1, 1) := by decide +kernel
theorem dX4_openShops_36 : decode cX4_openShops 36 = .ok (.ireturn, 1) := by decide +kernel
theorem dX4_nearestOpen_0 : decode cX4_nearestOpen 0 = .ok (.iconst (-1), 1) := by decide +kernel
theorem dX4_nearestOpen_1 : decode cX4_nearestOpen 1 = .ok (.istore_n 3, 1) := by decide +kernel
theorem dX4_nearestOpen_2 : decode cX4_nearestOpen 2 = .ok (.bipush 99, 2) := by decide +kernel
theorem dX4_nearestOpen_4 : decode cX4_nearestOpen 4 = .ok (.istore 4, 2) := by decide +kernel
theorem dX4_nearestOpen_6 : decode cX4_nearestOpen 6 = .ok (.iconst 0, 1) := by decide +kernel
theorem dX4_nearestOpen_7 : decode cX4_nearestOpen 7 = .ok (.istore 5, 2) := by decide +kernel
theorem dX4_nearestOpen_9 : decode cX4_nearestOpen 9 = .ok (.iload 5, 2) := by decide +kernel
theorem dX4_nearestOpen_11 : decode cX4_nearestOpen 11 = .ok (.aload_n 0, 1) := by decide +kernel
theorem dX4_nearestOpen_12 : decode cX4_nearestOpen 12 = .ok (.getfield 22, 3) := by decide +kernel
theorem dX4_nearestOpen_15 : decode cX4_nearestOpen 15 = .ok (.getfield 26, 3) := by decide +kernel
theorem dX4_nearestOpen_18 : decode cX4_nearestOpen 18 = .ok (.if_icmp .ge 66, 3) := by decide +kernel
theorem dX4_nearestOpen_21 : decode cX4_nearestOpen 21 = .ok (.aload_n 0, 1) := by decide +kernel
theorem dX4_nearestOpen_22 : decode cX4_nearestOpen 22 = .ok (.getfield 22, 3) := by decide +kernel
theorem dX4_nearestOpen_25 : decode cX4_nearestOpen 25 = .ok (.getfield 48, 3) := by decide +kernel
theorem dX4_nearestOpen_28 : decode cX4_nearestOpen 28 = .ok (.iload 5, 2) := by decide +kernel
theorem dX4_nearestOpen_30 : decode cX4_nearestOpen 30 = .ok (.iaload, 1) := by decide +kernel
theorem dX4_nearestOpen_31 : decode cX4_nearestOpen 31 = .ok (.aload_n 0, 1) := by decide +kernel
theorem dX4_nearestOpen_32 : decode cX4_nearestOpen 32 = .ok (.getfield 22, 3) := by decide +kernel
theorem dX4_nearestOpen_35 : decode cX4_nearestOpen 35 = .ok (.getfield 48, 3) := by decide +kernel
theorem dX4_nearestOpen_38 : decode cX4_nearestOpen 38 = .ok (.iload_n 1, 1) := by decide +kernel
theorem dX4_nearestOpen_39 : decode cX4_nearestOpen 39 = .ok (.iaload, 1) := by decide +kernel
theorem dX4_nearestOpen_40 : decode cX4_nearestOpen 40 = .ok (.isub, 1) := by decide +kernel
theorem dX4_nearestOpen_41 : decode cX4_nearestOpen 41 = .ok (.invokestatic 51, 3) := by decide +kernel
theorem dX4_nearestOpen_44 : decode cX4_nearestOpen 44 = .ok (.istore 6, 2) := by decide +kernel
theorem dX4_nearestOpen_46 : decode cX4_nearestOpen 46 = .ok (.iload_n 2, 1) := by decide +kernel
theorem dX4_nearestOpen_47 : decode cX4_nearestOpen 47 = .ok (.iload 5, 2) := by decide +kernel
theorem dX4_nearestOpen_49 : decode cX4_nearestOpen 49 = .ok (.ishr, 1) := by decide +kernel
theorem dX4_nearestOpen_50 : decode cX4_nearestOpen 50 = .ok (.iconst 1, 1) := by decide +kernel
theorem dX4_nearestOpen_51 : decode cX4_nearestOpen 51 = .ok (.iand, 1) := by decide +kernel
theorem dX4_nearestOpen_52 : decode cX4_nearestOpen 52 = .ok (.ifCond .ne 26, 3) := by decide +kernel
theorem dX4_nearestOpen_55 : decode cX4_nearestOpen 55 = .ok (.aload_n 0, 1) := by decide +kernel
theorem dX4_nearestOpen_56 : decode cX4_nearestOpen 56 = .ok (.iload 5, 2) := by decide +kernel
theorem dX4_nearestOpen_58 : decode cX4_nearestOpen 58 = .ok (.invokevirtual 44, 3) := by decide +kernel
theorem dX4_nearestOpen_61 : decode cX4_nearestOpen 61 = .ok (.ifCond .eq 17, 3) := by decide +kernel
theorem dX4_nearestOpen_64 : decode cX4_nearestOpen 64 = .ok (.iload 6, 2) := by decide +kernel
theorem dX4_nearestOpen_66 : decode cX4_nearestOpen 66 = .ok (.iload 4, 2) := by decide +kernel
theorem dX4_nearestOpen_68 : decode cX4_nearestOpen 68 = .ok (.if_icmp .ge 10, 3) := by decide +kernel
theorem dX4_nearestOpen_71 : decode cX4_nearestOpen 71 = .ok (.iload 5, 2) := by decide +kernel
theorem dX4_nearestOpen_73 : decode cX4_nearestOpen 73 = .ok (.istore_n 3, 1) := by decide +kernel
theorem dX4_nearestOpen_74 : decode cX4_nearestOpen 74 = .ok (.iload 6, 2) := by decide +kernel
theorem dX4_nearestOpen_76 : decode cX4_nearestOpen 76 = .ok (.istore 4, 2) := by decide +kernel
theorem dX4_nearestOpen_78 : decode cX4_nearestOpen 78 = .ok (.iinc 5 1, 3) := by decide +kernel
theorem dX4_nearestOpen_81 : decode cX4_nearestOpen 81 = .ok (.goto (-72), 3) := by decide +kernel
theorem dX4_nearestOpen_84 : decode cX4_nearestOpen 84 = .ok (.iload_n 3, 1) := by decide +kernel
theorem dX4_nearestOpen_85 : decode cX4_nearestOpen 85 = .ok (.ireturn, 1) := by decide +kernel
theorem dX4_soldBy_0 : decode cX4_soldBy 0 = .ok (.iconst 0, 1) := by decide +kernel
theorem dX4_soldBy_1 : decode cX4_soldBy 1 = .ok (.istore_n 2, 1) := by decide +kernel
theorem dX4_soldBy_2 : decode cX4_soldBy 2 = .ok (.iconst 0, 1) := by decide +kernel
theorem dX4_soldBy_3 : decode cX4_soldBy 3 = .ok (.istore_n 3, 1) := by decide +kernel
theorem dX4_soldBy_4 : decode cX4_soldBy 4 = .ok (.iload_n 3, 1) := by decide +kernel
theorem dX4_soldBy_5 : decode cX4_soldBy 5 = .ok (.aload_n 0, 1) := by decide +kernel
theorem dX4_soldBy_6 : decode cX4_soldBy 6 = .ok (.getfield 22, 3) := by decide +kernel
theorem dX4_soldBy_9 : decode cX4_soldBy 9 = .ok (.getfield 70, 3) := by decide +kernel
theorem dX4_soldBy_12 : decode cX4_soldBy 12 = .ok (.if_icmp .ge 45, 3) := by decide +kernel
theorem dX4_soldBy_15 : decode cX4_soldBy 15 = .ok (.aload_n 0, 1) := by decide +kernel
theorem dX4_soldBy_16 : decode cX4_soldBy 16 = .ok (.iload_n 3, 1) := by decide +kernel
theorem dX4_soldBy_17 : decode cX4_soldBy 17 = .ok (.iconst (-1), 1) := by decide +kernel
theorem dX4_soldBy_18 : decode cX4_soldBy 18 = .ok (.invokevirtual 67, 3) := by decide +kernel
theorem dX4_soldBy_21 : decode cX4_soldBy 21 = .ok (.istore 4, 2) := by decide +kernel
theorem dX4_soldBy_23 : decode cX4_soldBy 23 = .ok (.iload 4, 2) := by decide +kernel
theorem dX4_soldBy_25 : decode cX4_soldBy 25 = .ok (.iconst (-1), 1) := by decide +kernel
theorem dX4_soldBy_26 : decode cX4_soldBy 26 = .ok (.if_icmp .eq 25, 3) := by decide +kernel
theorem dX4_soldBy_29 : decode cX4_soldBy 29 = .ok (.iload_n 1, 1) := by decide +kernel
theorem dX4_soldBy_30 : decode cX4_soldBy 30 = .ok (.iload 4, 2) := by decide +kernel
theorem dX4_soldBy_32 : decode cX4_soldBy 32 = .ok (.ishr, 1) := by decide +kernel
theorem dX4_soldBy_33 : decode cX4_soldBy 33 = .ok (.iconst 1, 1) := by decide +kernel
theorem dX4_soldBy_34 : decode cX4_soldBy 34 = .ok (.iand, 1) := by decide +kernel
theorem dX4_soldBy_35 : decode cX4_soldBy 35 = .ok (.iconst 1, 1) := by decide +kernel
theorem dX4_soldBy_36 : decode cX4_soldBy 36 = .ok (.if_icmp .ne 15, 3) := by decide +kernel
theorem dX4_soldBy_39 : decode cX4_soldBy 39 = .ok (.iload_n 2, 1) := by decide +kernel
theorem dX4_soldBy_40 : decode cX4_soldBy 40 = .ok (.aload_n 0, 1) := by decide +kernel
theorem dX4_soldBy_41 : decode cX4_soldBy 41 = .ok (.getfield 22, 3) := by decide +kernel
theorem dX4_soldBy_44 : decode cX4_soldBy 44 = .ok (.getfield 73, 3) := by decide +kernel
theorem dX4_soldBy_47 : decode cX4_soldBy 47 = .ok (.iload_n 3, 1) := by decide +kernel
theorem dX4_soldBy_48 : decode cX4_soldBy 48 = .ok (.iaload, 1) := by decide +kernel
theorem dX4_soldBy_49 : decode cX4_soldBy 49 = .ok (.iadd, 1) := by decide +kernel
theorem dX4_soldBy_50 : decode cX4_soldBy 50 = .ok (.istore_n 2, 1) := by decide +kernel
theorem dX4_soldBy_51 : decode cX4_soldBy 51 = .ok (.iinc 3 1, 3) := by decide +kernel
theorem dX4_soldBy_54 : decode cX4_soldBy 54 = .ok (.goto (-50), 3) := by decide +kernel
theorem dX4_soldBy_57 : decode cX4_soldBy 57 = .ok (.iload_n 2, 1) := by decide +kernel
theorem dX4_soldBy_58 : decode cX4_soldBy 58 = .ok (.ireturn, 1) := by decide +kernel
theorem dX4_marginOf_0 : decode cX4_marginOf 0 = .ok (.iconst 0, 1) := by decide +kernel
theorem dX4_marginOf_1 : decode cX4_marginOf 1 = .ok (.istore_n 2, 1) := by decide +kernel
theorem dX4_marginOf_2 : decode cX4_marginOf 2 = .ok (.iconst 0, 1) := by decide +kernel
theorem dX4_marginOf_3 : decode cX4_marginOf 3 = .ok (.istore_n 3, 1) := by decide +kernel
theorem dX4_marginOf_4 : decode cX4_marginOf 4 = .ok (.iload_n 3, 1) := by decide +kernel
theorem dX4_marginOf_5 : decode cX4_marginOf 5 = .ok (.aload_n 0, 1) := by decide +kernel
theorem dX4_marginOf_6 : decode cX4_marginOf 6 = .ok (.getfield 22, 3) := by decide +kernel
theorem dX4_marginOf_9 : decode cX4_marginOf 9 = .ok (.getfield 70, 3) := by decide +kernel
theorem dX4_marginOf_12 : decode cX4_marginOf 12 = .ok (.if_icmp .ge 64, 3) := by decide +kernel
theorem dX4_marginOf_15 : decode cX4_marginOf 15 = .ok (.aload_n 0, 1) := by decide +kernel
theorem dX4_marginOf_16 : decode cX4_marginOf 16 = .ok (.iload_n 3, 1) := by decide +kernel
theorem dX4_marginOf_17 : decode cX4_marginOf 17 = .ok (.iconst (-1), 1) := by decide +kernel
theorem dX4_marginOf_18 : decode cX4_marginOf 18 = .ok (.invokevirtual 67, 3) := by decide +kernel
theorem dX4_marginOf_21 : decode cX4_marginOf 21 = .ok (.istore 4, 2) := by decide +kernel
theorem dX4_marginOf_23 : decode cX4_marginOf 23 = .ok (.iload 4, 2) := by decide +kernel
theorem dX4_marginOf_25 : decode cX4_marginOf 25 = .ok (.iconst (-1), 1) := by decide +kernel
theorem dX4_marginOf_26 : decode cX4_marginOf 26 = .ok (.if_icmp .eq 44, 3) := by decide +kernel
theorem dX4_marginOf_29 : decode cX4_marginOf 29 = .ok (.iload_n 1, 1) := by decide +kernel
theorem dX4_marginOf_30 : decode cX4_marginOf 30 = .ok (.iload 4, 2) := by decide +kernel
theorem dX4_marginOf_32 : decode cX4_marginOf 32 = .ok (.ishr, 1) := by decide +kernel
theorem dX4_marginOf_33 : decode cX4_marginOf 33 = .ok (.iconst 1, 1) := by decide +kernel
theorem dX4_marginOf_34 : decode cX4_marginOf 34 = .ok (.iand, 1) := by decide +kernel
theorem dX4_marginOf_35 : decode cX4_marginOf 35 = .ok (.iconst 1, 1) := by decide +kernel
theorem dX4_marginOf_36 : decode cX4_marginOf 36 = .ok (.if_icmp .ne 34, 3) := by decide +kernel
theorem dX4_marginOf_39 : decode cX4_marginOf 39 = .ok (.iload_n 2, 1) := by decide +kernel
theorem dX4_marginOf_40 : decode cX4_marginOf 40 = .ok (.aload_n 0, 1) := by decide +kernel
theorem dX4_marginOf_41 : decode cX4_marginOf 41 = .ok (.getfield 22, 3) := by decide +kernel
theorem dX4_marginOf_44 : decode cX4_marginOf 44 = .ok (.getfield 73, 3) := by decide +kernel
theorem dX4_marginOf_47 : decode cX4_marginOf 47 = .ok (.iload_n 3, 1) := by decide +kernel
theorem dX4_marginOf_48 : decode cX4_marginOf 48 = .ok (.iaload, 1) := by decide +kernel
theorem dX4_marginOf_49 : decode cX4_marginOf 49 = .ok (.aload_n 0, 1) := by decide +kernel
theorem dX4_marginOf_50 : decode cX4_marginOf 50 = .ok (.getfield 9, 3) := by decide +kernel
theorem dX4_marginOf_53 : decode cX4_marginOf 53 = .ok (.iload 4, 2) := by decide +kernel
theorem dX4_marginOf_55 : decode cX4_marginOf 55 = .ok (.iaload, 1) := by decide +kernel
theorem dX4_marginOf_56 : decode cX4_marginOf 56 = .ok (.aload_n 0, 1) := by decide +kernel
theorem dX4_marginOf_57 : decode cX4_marginOf 57 = .ok (.getfield 22, 3) := by decide +kernel
theorem dX4_marginOf_60 : decode cX4_marginOf 60 = .ok (.getfield 79, 3) := by decide +kernel
theorem dX4_marginOf_63 : decode cX4_marginOf 63 = .ok (.iload 4, 2) := by decide +kernel
theorem dX4_marginOf_65 : decode cX4_marginOf 65 = .ok (.iaload, 1) := by decide +kernel
theorem dX4_marginOf_66 : decode cX4_marginOf 66 = .ok (.isub, 1) := by decide +kernel
theorem dX4_marginOf_67 : decode cX4_marginOf 67 = .ok (.imul, 1) := by decide +kernel
theorem dX4_marginOf_68 : decode cX4_marginOf 68 = .ok (.iadd, 1) := by decide +kernel
theorem dX4_marginOf_69 : decode cX4_marginOf 69 = .ok (.istore_n 2, 1) := by decide +kernel
theorem dX4_marginOf_70 : decode cX4_marginOf 70 = .ok (.iinc 3 1, 3) := by decide +kernel
theorem dX4_marginOf_73 : decode cX4_marginOf 73 = .ok (.goto (-69), 3) := by decide +kernel
theorem dX4_marginOf_76 : decode cX4_marginOf 76 = .ok (.iload_n 2, 1) := by decide +kernel
theorem dX4_marginOf_77 : decode cX4_marginOf 77 = .ok (.ireturn, 1) := by decide +kernel
theorem dX5_addOwner_0 : decode cX5_addOwner 0 = .ok (.aload_n 0, 1) := by decide +kernel
theorem dX5_addOwner_1 : decode cX5_addOwner 1 = .ok (.getfield 47, 3) := by decide +kernel
theorem dX5_addOwner_4 : decode cX5_addOwner 4 = .ok (.bipush 6, 2) := by decide +kernel
theorem dX5_addOwner_6 : decode cX5_addOwner 6 = .ok (.if_icmp .lt 6, 3) := by decide +kernel
theorem dX5_addOwner_9 : decode cX5_addOwner 9 = .ok (.bipush (-104), 2) := by decide +kernel
theorem dX5_addOwner_11 : decode cX5_addOwner 11 = .ok (.ireturn, 1) := by decide +kernel
theorem dX5_addOwner_12 : decode cX5_addOwner 12 = .ok (.aload_n 0, 1) := by decide +kernel
theorem dX5_addOwner_13 : decode cX5_addOwner 13 = .ok (.getfield 9, 3) := by decide +kernel
theorem dX5_addOwner_16 : decode cX5_addOwner 16 = .ok (.aload_n 0, 1) := by decide +kernel
theorem dX5_addOwner_17 : decode cX5_addOwner 17 = .ok (.getfield 47, 3) := by decide +kernel
theorem dX5_addOwner_20 : decode cX5_addOwner 20 = .ok (.iload_n 1, 1) := by decide +kernel
theorem dX5_addOwner_21 : decode cX5_addOwner 21 = .ok (.iastore, 1) := by decide +kernel
theorem dX5_addOwner_22 : decode cX5_addOwner 22 = .ok (.aload_n 0, 1) := by decide +kernel
theorem dX5_addOwner_23 : decode cX5_addOwner 23 = .ok (.getfield 15, 3) := by decide +kernel
theorem dX5_addOwner_26 : decode cX5_addOwner 26 = .ok (.aload_n 0, 1) := by decide +kernel
theorem dX5_addOwner_27 : decode cX5_addOwner 27 = .ok (.getfield 47, 3) := by decide +kernel
theorem dX5_addOwner_30 : decode cX5_addOwner 30 = .ok (.iload_n 2, 1) := by decide +kernel
theorem dX5_addOwner_31 : decode cX5_addOwner 31 = .ok (.iastore, 1) := by decide +kernel
theorem dX5_addOwner_32 : decode cX5_addOwner 32 = .ok (.aload_n 0, 1) := by decide +kernel
theorem dX5_addOwner_33 : decode cX5_addOwner 33 = .ok (.dup, 1) := by decide +kernel
theorem dX5_addOwner_34 : decode cX5_addOwner 34 = .ok (.getfield 47, 3) := by decide +kernel
theorem dX5_addOwner_37 : decode cX5_addOwner 37 = .ok (.iconst 1, 1) := by decide +kernel
theorem dX5_addOwner_38 : decode cX5_addOwner 38 = .ok (.iadd, 1) := by decide +kernel
theorem dX5_addOwner_39 : decode cX5_addOwner 39 = .ok (.putfield 47, 3) := by decide +kernel
theorem dX5_addOwner_42 : decode cX5_addOwner 42 = .ok (.aload_n 0, 1) := by decide +kernel
theorem dX5_addOwner_43 : decode cX5_addOwner 43 = .ok (.getfield 47, 3) := by decide +kernel
theorem dX5_addOwner_46 : decode cX5_addOwner 46 = .ok (.iconst 1, 1) := by decide +kernel
theorem dX5_addOwner_47 : decode cX5_addOwner 47 = .ok (.isub, 1) := by decide +kernel
theorem dX5_addOwner_48 : decode cX5_addOwner 48 = .ok (.ireturn, 1) := by decide +kernel
theorem dX5_measure_0 : decode cX5_measure 0 = .ok (.aload_n 0, 1) := by decide +kernel
theorem dX5_measure_1 : decode cX5_measure 1 = .ok (.getfield 24, 3) := by decide +kernel
theorem dX5_measure_4 : decode cX5_measure 4 = .ok (.iload_n 1, 1) := by decide +kernel
theorem dX5_measure_5 : decode cX5_measure 5 = .ok (.iaload, 1) := by decide +kernel
theorem dX5_measure_6 : decode cX5_measure 6 = .ok (.aload_n 0, 1) := by decide +kernel
theorem dX5_measure_7 : decode cX5_measure 7 = .ok (.getfield 18, 3) := by decide +kernel
theorem dX5_measure_10 : decode cX5_measure 10 = .ok (.iload_n 2, 1) := by decide +kernel
theorem dX5_measure_11 : decode cX5_measure 11 = .ok (.iaload, 1) := by decide +kernel
theorem dX5_measure_12 : decode cX5_measure 12 = .ok (.isub, 1) := by decide +kernel
theorem dX5_measure_13 : decode cX5_measure 13 = .ok (.invokestatic 61, 3) := by decide +kernel
theorem dX5_measure_16 : decode cX5_measure 16 = .ok (.istore_n 3, 1) := by decide +kernel
theorem dX5_measure_17 : decode cX5_measure 17 = .ok (.aload_n 0, 1) := by decide +kernel
theorem dX5_measure_18 : decode cX5_measure 18 = .ok (.getfield 44, 3) := by decide +kernel
theorem dX5_measure_21 : decode cX5_measure 21 = .ok (.iload_n 1, 1) := by decide +kernel
theorem dX5_measure_22 : decode cX5_measure 22 = .ok (.aaload, 1) := by decide +kernel
theorem dX5_measure_23 : decode cX5_measure 23 = .ok (.iload_n 2, 1) := by decide +kernel
theorem dX5_measure_24 : decode cX5_measure 24 = .ok (.aload_n 0, 1) := by decide +kernel
theorem dX5_measure_25 : decode cX5_measure 25 = .ok (.getfield 30, 3) := by decide +kernel
theorem dX5_measure_28 : decode cX5_measure 28 = .ok (.iload_n 1, 1) := by decide +kernel
theorem dX5_measure_29 : decode cX5_measure 29 = .ok (.iaload, 1) := by decide +kernel
theorem dX5_measure_30 : decode cX5_measure 30 = .ok (.iload_n 3, 1) := by decide +kernel
theorem dX5_measure_31 : decode cX5_measure 31 = .ok (.imul, 1) := by decide +kernel
theorem dX5_measure_32 : decode cX5_measure 32 = .ok (.aload_n 0, 1) := by decide +kernel
theorem dX5_measure_33 : decode cX5_measure 33 = .ok (.getfield 36, 3) := by decide +kernel
theorem dX5_measure_36 : decode cX5_measure 36 = .ok (.iload_n 1, 1) := by decide +kernel
theorem dX5_measure_37 : decode cX5_measure 37 = .ok (.iaload, 1) := by decide +kernel
theorem dX5_measure_38 : decode cX5_measure 38 = .ok (.iload_n 2, 1) := by decide +kernel
theorem dX5_measure_39 : decode cX5_measure 39 = .ok (.if_icmp .ne 12, 3) := by decide +kernel
theorem dX5_measure_42 : decode cX5_measure 42 = .ok (.aload_n 0, 1) := by decide +kernel
theorem dX5_measure_43 : decode cX5_measure 43 = .ok (.getfield 39, 3) := by decide +kernel
theorem dX5_measure_46 : decode cX5_measure 46 = .ok (.iload_n 1, 1) := by decide +kernel
theorem dX5_measure_47 : decode cX5_measure 47 = .ok (.iaload, 1) := by decide +kernel
theorem dX5_measure_48 : decode cX5_measure 48 = .ok (.goto 4, 3) := by decide +kernel
theorem dX5_measure_51 : decode cX5_measure 51 = .ok (.iconst 0, 1) := by decide +kernel
theorem dX5_measure_52 : decode cX5_measure 52 = .ok (.isub, 1) := by decide +kernel
theorem dX5_measure_53 : decode cX5_measure 53 = .ok (.iastore, 1) := by decide +kernel
theorem dX5_measure_54 : decode cX5_measure 54 = .ok (.return_, 1) := by decide +kernel
theorem dX5_addShop_0 : decode cX5_addShop 0 = .ok (.aload_n 0, 1) := by decide +kernel
theorem dX5_addShop_1 : decode cX5_addShop 1 = .ok (.getfield 51, 3) := by decide +kernel
theorem dX5_addShop_4 : decode cX5_addShop 4 = .ok (.bipush 6, 2) := by decide +kernel
theorem dX5_addShop_6 : decode cX5_addShop 6 = .ok (.if_icmp .lt 6, 3) := by decide +kernel
theorem dX5_addShop_9 : decode cX5_addShop 9 = .ok (.bipush (-104), 2) := by decide +kernel
theorem dX5_addShop_11 : decode cX5_addShop 11 = .ok (.ireturn, 1) := by decide +kernel
theorem dX5_addShop_12 : decode cX5_addShop 12 = .ok (.aload_n 0, 1) := by decide +kernel
theorem dX5_addShop_13 : decode cX5_addShop 13 = .ok (.getfield 18, 3) := by decide +kernel
theorem dX5_addShop_16 : decode cX5_addShop 16 = .ok (.aload_n 0, 1) := by decide +kernel
theorem dX5_addShop_17 : decode cX5_addShop 17 = .ok (.getfield 51, 3) := by decide +kernel
theorem dX5_addShop_20 : decode cX5_addShop 20 = .ok (.iload_n 1, 1) := by decide +kernel
theorem dX5_addShop_21 : decode cX5_addShop 21 = .ok (.iastore, 1) := by decide +kernel
theorem dX5_addShop_22 : decode cX5_addShop 22 = .ok (.aload_n 0, 1) := by decide +kernel
theorem dX5_addShop_23 : decode cX5_addShop 23 = .ok (.getfield 21, 3) := by decide +kernel
theorem dX5_addShop_26 : decode cX5_addShop 26 = .ok (.aload_n 0, 1) := by decide +kernel
theorem dX5_addShop_27 : decode cX5_addShop 27 = .ok (.getfield 51, 3) := by decide +kernel
theorem dX5_addShop_30 : decode cX5_addShop 30 = .ok (.iload_n 2, 1) := by decide +kernel
theorem dX5_addShop_31 : decode cX5_addShop 31 = .ok (.iastore, 1) := by decide +kernel
theorem dX5_addShop_32 : decode cX5_addShop 32 = .ok (.aload_n 0, 1) := by decide +kernel
theorem dX5_addShop_33 : decode cX5_addShop 33 = .ok (.dup, 1) := by decide +kernel
theorem dX5_addShop_34 : decode cX5_addShop 34 = .ok (.getfield 51, 3) := by decide +kernel
theorem dX5_addShop_37 : decode cX5_addShop 37 = .ok (.iconst 1, 1) := by decide +kernel
theorem dX5_addShop_38 : decode cX5_addShop 38 = .ok (.iadd, 1) := by decide +kernel
theorem dX5_addShop_39 : decode cX5_addShop 39 = .ok (.putfield 51, 3) := by decide +kernel
theorem dX5_addShop_42 : decode cX5_addShop 42 = .ok (.iconst 0, 1) := by decide +kernel
theorem dX5_addShop_43 : decode cX5_addShop 43 = .ok (.istore_n 3, 1) := by decide +kernel
theorem dX5_addShop_44 : decode cX5_addShop 44 = .ok (.iload_n 3, 1) := by decide +kernel
theorem dX5_addShop_45 : decode cX5_addShop 45 = .ok (.aload_n 0, 1) := by decide +kernel
theorem dX5_addShop_46 : decode cX5_addShop 46 = .ok (.getfield 54, 3) := by decide +kernel
theorem dX5_addShop_49 : decode cX5_addShop 49 = .ok (.if_icmp .ge 20, 3) := by decide +kernel
theorem dX5_addShop_52 : decode cX5_addShop 52 = .ok (.aload_n 0, 1) := by decide +kernel
theorem dX5_addShop_53 : decode cX5_addShop 53 = .ok (.iload_n 3, 1) := by decide +kernel
theorem dX5_addShop_54 : decode cX5_addShop 54 = .ok (.aload_n 0, 1) := by decide +kernel
theorem dX5_addShop_55 : decode cX5_addShop 55 = .ok (.getfield 51, 3) := by decide +kernel
theorem dX5_addShop_58 : decode cX5_addShop 58 = .ok (.iconst 1, 1) := by decide +kernel
theorem dX5_addShop_59 : decode cX5_addShop 59 = .ok (.isub, 1) := by decide +kernel
theorem dX5_addShop_60 : decode cX5_addShop 60 = .ok (.invokevirtual 57, 3) := by decide +kernel
theorem dX5_addShop_63 : decode cX5_addShop 63 = .ok (.iinc 3 1, 3) := by decide +kernel
theorem dX5_addShop_66 : decode cX5_addShop 66 = .ok (.goto (-22), 3) := by decide +kernel
theorem dX5_addShop_69 : decode cX5_addShop 69 = .ok (.aload_n 0, 1) := by decide +kernel
theorem dX5_addShop_70 : decode cX5_addShop 70 = .ok (.getfield 51, 3) := by decide +kernel
theorem dX5_addShop_73 : decode cX5_addShop 73 = .ok (.iconst 1, 1) := by decide +kernel
theorem dX5_addShop_74 : decode cX5_addShop 74 = .ok (.isub, 1) := by decide +kernel
theorem dX5_addShop_75 : decode cX5_addShop 75 = .ok (.ireturn, 1) := by decide +kernel
theorem dX5_addSort_0 : decode cX5_addSort 0 = .ok (.aload_n 0, 1) := by decide +kernel
theorem dX5_addSort_1 : decode cX5_addSort 1 = .ok (.getfield 54, 3) := by decide +kernel
theorem dX5_addSort_4 : decode cX5_addSort 4 = .ok (.bipush 8, 2) := by decide +kernel
theorem dX5_addSort_6 : decode cX5_addSort 6 = .ok (.if_icmp .lt 6, 3) := by decide +kernel
theorem dX5_addSort_9 : decode cX5_addSort 9 = .ok (.bipush (-104), 2) := by decide +kernel
theorem dX5_addSort_11 : decode cX5_addSort 11 = .ok (.ireturn, 1) := by decide +kernel
theorem dX5_addSort_12 : decode cX5_addSort 12 = .ok (.aload_n 0, 1) := by decide +kernel
theorem dX5_addSort_13 : decode cX5_addSort 13 = .ok (.getfield 24, 3) := by decide +kernel
theorem dX5_addSort_16 : decode cX5_addSort 16 = .ok (.aload_n 0, 1) := by decide +kernel
theorem dX5_addSort_17 : decode cX5_addSort 17 = .ok (.getfield 54, 3) := by decide +kernel
theorem dX5_addSort_20 : decode cX5_addSort 20 = .ok (.iload_n 1, 1) := by decide +kernel
theorem dX5_addSort_21 : decode cX5_addSort 21 = .ok (.iastore, 1) := by decide +kernel
theorem dX5_addSort_22 : decode cX5_addSort 22 = .ok (.aload_n 0, 1) := by decide +kernel
theorem dX5_addSort_23 : decode cX5_addSort 23 = .ok (.getfield 27, 3) := by decide +kernel
theorem dX5_addSort_26 : decode cX5_addSort 26 = .ok (.aload_n 0, 1) := by decide +kernel
theorem dX5_addSort_27 : decode cX5_addSort 27 = .ok (.getfield 54, 3) := by decide +kernel
theorem dX5_addSort_30 : decode cX5_addSort 30 = .ok (.iload_n 2, 1) := by decide +kernel
theorem dX5_addSort_31 : decode cX5_addSort 31 = .ok (.iastore, 1) := by decide +kernel
theorem dX5_addSort_32 : decode cX5_addSort 32 = .ok (.aload_n 0, 1) := by decide +kernel
theorem dX5_addSort_33 : decode cX5_addSort 33 = .ok (.getfield 30, 3) := by decide +kernel
theorem dX5_addSort_36 : decode cX5_addSort 36 = .ok (.aload_n 0, 1) := by decide +kernel
theorem dX5_addSort_37 : decode cX5_addSort 37 = .ok (.getfield 54, 3) := by decide +kernel
theorem dX5_addSort_40 : decode cX5_addSort 40 = .ok (.iload_n 3, 1) := by decide +kernel
theorem dX5_addSort_41 : decode cX5_addSort 41 = .ok (.iastore, 1) := by decide +kernel
theorem dX5_addSort_42 : decode cX5_addSort 42 = .ok (.aload_n 0, 1) := by decide +kernel
theorem dX5_addSort_43 : decode cX5_addSort 43 = .ok (.getfield 33, 3) := by decide +kernel
theorem dX5_addSort_46 : decode cX5_addSort 46 = .ok (.aload_n 0, 1) := by decide +kernel
theorem dX5_addSort_47 : decode cX5_addSort 47 = .ok (.getfield 54, 3) := by decide +kernel
theorem dX5_addSort_50 : decode cX5_addSort 50 = .ok (.iload 4, 2) := by decide +kernel
theorem dX5_addSort_52 : decode cX5_addSort 52 = .ok (.iastore, 1) := by decide +kernel
theorem dX5_addSort_53 : decode cX5_addSort 53 = .ok (.aload_n 0, 1) := by decide +kernel
theorem dX5_addSort_54 : decode cX5_addSort 54 = .ok (.getfield 36, 3) := by decide +kernel
theorem dX5_addSort_57 : decode cX5_addSort 57 = .ok (.aload_n 0, 1) := by decide +kernel
theorem dX5_addSort_58 : decode cX5_addSort 58 = .ok (.getfield 54, 3) := by decide +kernel
theorem dX5_addSort_61 : decode cX5_addSort 61 = .ok (.iload 5, 2) := by decide +kernel
theorem dX5_addSort_63 : decode cX5_addSort 63 = .ok (.iastore, 1) := by decide +kernel
theorem dX5_addSort_64 : decode cX5_addSort 64 = .ok (.aload_n 0, 1) := by decide +kernel
theorem dX5_addSort_65 : decode cX5_addSort 65 = .ok (.getfield 39, 3) := by decide +kernel
theorem dX5_addSort_68 : decode cX5_addSort 68 = .ok (.aload_n 0, 1) := by decide +kernel
theorem dX5_addSort_69 : decode cX5_addSort 69 = .ok (.getfield 54, 3) := by decide +kernel
theorem dX5_addSort_72 : decode cX5_addSort 72 = .ok (.iload 6, 2) := by decide +kernel
theorem dX5_addSort_74 : decode cX5_addSort 74 = .ok (.iastore, 1) := by decide +kernel
theorem dX5_addSort_75 : decode cX5_addSort 75 = .ok (.aload_n 0, 1) := by decide +kernel
theorem dX5_addSort_76 : decode cX5_addSort 76 = .ok (.dup, 1) := by decide +kernel
theorem dX5_addSort_77 : decode cX5_addSort 77 = .ok (.getfield 54, 3) := by decide +kernel
theorem dX5_addSort_80 : decode cX5_addSort 80 = .ok (.iconst 1, 1) := by decide +kernel
theorem dX5_addSort_81 : decode cX5_addSort 81 = .ok (.iadd, 1) := by decide +kernel
theorem dX5_addSort_82 : decode cX5_addSort 82 = .ok (.putfield 54, 3) := by decide +kernel
theorem dX5_addSort_85 : decode cX5_addSort 85 = .ok (.iconst 0, 1) := by decide +kernel
theorem dX5_addSort_86 : decode cX5_addSort 86 = .ok (.istore 7, 2) := by decide +kernel
theorem dX5_addSort_88 : decode cX5_addSort 88 = .ok (.iload 7, 2) := by decide +kernel
theorem dX5_addSort_90 : decode cX5_addSort 90 = .ok (.aload_n 0, 1) := by decide +kernel
theorem dX5_addSort_91 : decode cX5_addSort 91 = .ok (.getfield 51, 3) := by decide +kernel
theorem dX5_addSort_94 : decode cX5_addSort 94 = .ok (.if_icmp .ge 21, 3) := by decide +kernel
theorem dX5_addSort_97 : decode cX5_addSort 97 = .ok (.aload_n 0, 1) := by decide +kernel
theorem dX5_addSort_98 : decode cX5_addSort 98 = .ok (.aload_n 0, 1) := by decide +kernel
theorem dX5_addSort_99 : decode cX5_addSort 99 = .ok (.getfield 54, 3) := by decide +kernel
theorem dX5_addSort_102 : decode cX5_addSort 102 = .ok (.iconst 1, 1) := by decide +kernel
theorem dX5_addSort_103 : decode cX5_addSort 103 = .ok (.isub, 1) := by decide +kernel
theorem dX5_addSort_104 : decode cX5_addSort 104 = .ok (.iload 7, 2) := by decide +kernel
theorem dX5_addSort_106 : decode cX5_addSort 106 = .ok (.invokevirtual 57, 3) := by decide +kernel
theorem dX5_addSort_109 : decode cX5_addSort 109 = .ok (.iinc 7 1, 3) := by decide +kernel
theorem dX5_addSort_112 : decode cX5_addSort 112 = .ok (.goto (-24), 3) := by decide +kernel
theorem dX5_addSort_115 : decode cX5_addSort 115 = .ok (.aload_n 0, 1) := by decide +kernel
theorem dX5_addSort_116 : decode cX5_addSort 116 = .ok (.getfield 54, 3) := by decide +kernel
theorem dX5_addSort_119 : decode cX5_addSort 119 = .ok (.iconst 1, 1) := by decide +kernel
theorem dX5_addSort_120 : decode cX5_addSort 120 = .ok (.isub, 1) := by decide +kernel
theorem dX5_addSort_121 : decode cX5_addSort 121 = .ok (.ireturn, 1) := by decide +kernel
theorem dX6_append_0 : decode cX6_append 0 = .ok (.aload_n 0, 1) := by decide +kernel
theorem dX6_append_1 : decode cX6_append 1 = .ok (.getfield 15, 3) := by decide +kernel
theorem dX6_append_4 : decode cX6_append 4 = .ok (.bipush 50, 2) := by decide +kernel
theorem dX6_append_6 : decode cX6_append 6 = .ok (.if_icmp .ge 23, 3) := by decide +kernel
theorem dX6_append_9 : decode cX6_append 9 = .ok (.aload_n 0, 1) := by decide +kernel
theorem dX6_append_10 : decode cX6_append 10 = .ok (.getfield 9, 3) := by decide +kernel
theorem dX6_append_13 : decode cX6_append 13 = .ok (.aload_n 0, 1) := by decide +kernel
theorem dX6_append_14 : decode cX6_append 14 = .ok (.getfield 15, 3) := by decide +kernel
theorem dX6_append_17 : decode cX6_append 17 = .ok (.iload_n 1, 1) := by decide +kernel
theorem dX6_append_18 : decode cX6_append 18 = .ok (.castore, 1) := by decide +kernel
theorem dX6_append_19 : decode cX6_append 19 = .ok (.aload_n 0, 1) := by decide +kernel
theorem dX6_append_20 : decode cX6_append 20 = .ok (.dup, 1) := by decide +kernel
theorem dX6_append_21 : decode cX6_append 21 = .ok (.getfield 15, 3) := by decide +kernel
theorem dX6_append_24 : decode cX6_append 24 = .ok (.iconst 1, 1) := by decide +kernel
theorem dX6_append_25 : decode cX6_append 25 = .ok (.iadd, 1) := by decide +kernel
theorem dX6_append_26 : decode cX6_append 26 = .ok (.putfield 15, 3) := by decide +kernel
theorem dX6_append_29 : decode cX6_append 29 = .ok (.return_, 1) := by decide +kernel
theorem dX6_become_0 : decode cX6_become 0 = .ok (.aload_n 0, 1) := by decide +kernel
theorem dX6_become_1 : decode cX6_become 1 = .ok (.aload_n 1, 1) := by decide +kernel
theorem dX6_become_2 : decode cX6_become 2 = .ok (.getfield 15, 3) := by decide +kernel
theorem dX6_become_5 : decode cX6_become 5 = .ok (.putfield 15, 3) := by decide +kernel
theorem dX6_become_8 : decode cX6_become 8 = .ok (.iconst 0, 1) := by decide +kernel
theorem dX6_become_9 : decode cX6_become 9 = .ok (.istore_n 2, 1) := by decide +kernel
theorem dX6_become_10 : decode cX6_become 10 = .ok (.iload_n 2, 1) := by decide +kernel
theorem dX6_become_11 : decode cX6_become 11 = .ok (.aload_n 0, 1) := by decide +kernel
theorem dX6_become_12 : decode cX6_become 12 = .ok (.getfield 15, 3) := by decide +kernel
theorem dX6_become_15 : decode cX6_become 15 = .ok (.if_icmp .ge 21, 3) := by decide +kernel
theorem dX6_become_18 : decode cX6_become 18 = .ok (.aload_n 0, 1) := by decide +kernel
theorem dX6_become_19 : decode cX6_become 19 = .ok (.getfield 9, 3) := by decide +kernel
theorem dX6_become_22 : decode cX6_become 22 = .ok (.iload_n 2, 1) := by decide +kernel
theorem dX6_become_23 : decode cX6_become 23 = .ok (.aload_n 1, 1) := by decide +kernel
theorem dX6_become_24 : decode cX6_become 24 = .ok (.getfield 9, 3) := by decide +kernel
theorem dX6_become_27 : decode cX6_become 27 = .ok (.iload_n 2, 1) := by decide +kernel
theorem dX6_become_28 : decode cX6_become 28 = .ok (.caload, 1) := by decide +kernel
theorem dX6_become_29 : decode cX6_become 29 = .ok (.castore, 1) := by decide +kernel
theorem dX6_become_30 : decode cX6_become 30 = .ok (.iinc 2 1, 3) := by decide +kernel
theorem dX6_become_33 : decode cX6_become 33 = .ok (.goto (-23), 3) := by decide +kernel
theorem dX6_become_36 : decode cX6_become 36 = .ok (.return_, 1) := by decide +kernel
theorem dX7_isNot_0 : decode cX7_isNot 0 = .ok (.iload_n 0, 1) := by decide +kernel
theorem dX7_isNot_1 : decode cX7_isNot 1 = .ok (.iload_n 1, 1) := by decide +kernel
theorem dX7_isNot_2 : decode cX7_isNot 2 = .ok (.if_icmp .lt 8, 3) := by decide +kernel
theorem dX7_isNot_5 : decode cX7_isNot 5 = .ok (.iload_n 0, 1) := by decide +kernel
theorem dX7_isNot_6 : decode cX7_isNot 6 = .ok (.iload_n 2, 1) := by decide +kernel
theorem dX7_isNot_7 : decode cX7_isNot 7 = .ok (.if_icmp .le 7, 3) := by decide +kernel
theorem dX7_isNot_10 : decode cX7_isNot 10 = .ok (.iconst 1, 1) := by decide +kernel
theorem dX7_isNot_11 : decode cX7_isNot 11 = .ok (.goto 4, 3) := by decide +kernel
theorem dX7_isNot_14 : decode cX7_isNot 14 = .ok (.iconst 0, 1) := by decide +kernel
theorem dX7_isNot_15 : decode cX7_isNot 15 = .ok (.ireturn, 1) := by decide +kernel
theorem dX7_owner_0 : decode cX7_owner 0 = .ok (.iload_n 1, 1) := by decide +kernel
theorem dX7_owner_1 : decode cX7_owner 1 = .ok (.iconst 0, 1) := by decide +kernel
theorem dX7_owner_2 : decode cX7_owner 2 = .ok (.iconst 4, 1) := by decide +kernel
theorem dX7_owner_3 : decode cX7_owner 3 = .ok (.invokestatic 72, 3) := by decide +kernel
theorem dX7_owner_6 : decode cX7_owner 6 = .ok (.ifCond .ne 13, 3) := by decide +kernel
theorem dX7_owner_9 : decode cX7_owner 9 = .ok (.iload_n 2, 1) := by decide +kernel
theorem dX7_owner_10 : decode cX7_owner 10 = .ok (.iconst 0, 1) := by decide +kernel
theorem dX7_owner_11 : decode cX7_owner 11 = .ok (.bipush 99, 2) := by decide +kernel
theorem dX7_owner_13 : decode cX7_owner 13 = .ok (.invokestatic 72, 3) := by decide +kernel
theorem dX7_owner_16 : decode cX7_owner 16 = .ok (.ifCond .eq 6, 3) := by decide +kernel
theorem dX7_owner_19 : decode cX7_owner 19 = .ok (.bipush (-102), 2) := by decide +kernel
theorem dX7_owner_21 : decode cX7_owner 21 = .ok (.ireturn, 1) := by decide +kernel
theorem dX7_owner_22 : decode cX7_owner 22 = .ok (.aload_n 0, 1) := by decide +kernel
theorem dX7_owner_23 : decode cX7_owner 23 = .ok (.getfield 10, 3) := by decide +kernel
theorem dX7_owner_26 : decode cX7_owner 26 = .ok (.iload_n 1, 1) := by decide +kernel
theorem dX7_owner_27 : decode cX7_owner 27 = .ok (.iload_n 2, 1) := by decide +kernel
theorem dX7_owner_28 : decode cX7_owner 28 = .ok (.invokevirtual 76, 3) := by decide +kernel
theorem dX7_owner_31 : decode cX7_owner 31 = .ok (.ireturn, 1) := by decide +kernel
theorem dX7_isNoOwner_0 : decode cX7_isNoOwner 0 = .ok (.iload_n 1, 1) := by decide +kernel
theorem dX7_isNoOwner_1 : decode cX7_isNoOwner 1 = .ok (.iconst 0, 1) := by decide +kernel
theorem dX7_isNoOwner_2 : decode cX7_isNoOwner 2 = .ok (.aload_n 0, 1) := by decide +kernel
theorem dX7_isNoOwner_3 : decode cX7_isNoOwner 3 = .ok (.getfield 10, 3) := by decide +kernel
theorem dX7_isNoOwner_6 : decode cX7_isNoOwner 6 = .ok (.getfield 159, 3) := by decide +kernel
theorem dX7_isNoOwner_9 : decode cX7_isNoOwner 9 = .ok (.iconst 1, 1) := by decide +kernel
theorem dX7_isNoOwner_10 : decode cX7_isNoOwner 10 = .ok (.isub, 1) := by decide +kernel
theorem dX7_isNoOwner_11 : decode cX7_isNoOwner 11 = .ok (.invokestatic 72, 3) := by decide +kernel
theorem dX7_isNoOwner_14 : decode cX7_isNoOwner 14 = .ok (.ireturn, 1) := by decide +kernel
theorem dX7_as_0 : decode cX7_as 0 = .ok (.aload_n 0, 1) := by decide +kernel
theorem dX7_as_1 : decode cX7_as 1 = .ok (.iload_n 1, 1) := by decide +kernel
theorem dX7_as_2 : decode cX7_as 2 = .ok (.invokevirtual 80, 3) := by decide +kernel
theorem dX7_as_5 : decode cX7_as 5 = .ok (.ifCond .eq 6, 3) := by decide +kernel
theorem dX7_as_8 : decode cX7_as 8 = .ok (.bipush (-101), 2) := by decide +kernel
theorem dX7_as_10 : decode cX7_as 10 = .ok (.ireturn, 1) := by decide +kernel
theorem dX7_as_11 : decode cX7_as 11 = .ok (.iload_n 2, 1) := by decide +kernel
theorem dX7_as_12 : decode cX7_as 12 = .ok (.iconst 0, 1) := by decide +kernel
theorem dX7_as_13 : decode cX7_as 13 = .ok (.iconst 4, 1) := by decide +kernel
theorem dX7_as_14 : decode cX7_as 14 = .ok (.invokestatic 72, 3) := by decide +kernel
theorem dX7_as_17 : decode cX7_as 17 = .ok (.ifCond .eq 6, 3) := by decide +kernel
theorem dX7_as_20 : decode cX7_as 20 = .ok (.bipush (-102), 2) := by decide +kernel
theorem dX7_as_22 : decode cX7_as 22 = .ok (.ireturn, 1) := by decide +kernel
theorem dX7_as_23 : decode cX7_as 23 = .ok (.aload_n 0, 1) := by decide +kernel
theorem dX7_as_24 : decode cX7_as 24 = .ok (.getfield 10, 3) := by decide +kernel
theorem dX7_as_27 : decode cX7_as 27 = .ok (.getfield 84, 3) := by decide +kernel
theorem dX7_as_30 : decode cX7_as 30 = .ok (.iload_n 1, 1) := by decide +kernel
theorem dX7_as_31 : decode cX7_as 31 = .ok (.iaload, 1) := by decide +kernel
theorem dX7_as_32 : decode cX7_as 32 = .ok (.istore_n 3, 1) := by decide +kernel
theorem dX7_as_33 : decode cX7_as 33 = .ok (.iload_n 2, 1) := by decide +kernel
theorem dX7_as_34 : decode cX7_as 34 = .ok (.ifCond .eq 18, 3) := by decide +kernel
theorem dX7_as_37 : decode cX7_as 37 = .ok (.iload_n 2, 1) := by decide +kernel
theorem dX7_as_38 : decode cX7_as 38 = .ok (.iload_n 3, 1) := by decide +kernel
theorem dX7_as_39 : decode cX7_as 39 = .ok (.if_icmp .eq 13, 3) := by decide +kernel
theorem dX7_as_42 : decode cX7_as 42 = .ok (.iload_n 2, 1) := by decide +kernel
theorem dX7_as_43 : decode cX7_as 43 = .ok (.iconst 1, 1) := by decide +kernel
theorem dX7_as_44 : decode cX7_as 44 = .ok (.if_icmp .ne 12, 3) := by decide +kernel
theorem dX7_as_47 : decode cX7_as 47 = .ok (.iload_n 3, 1) := by decide +kernel
theorem dX7_as_48 : decode cX7_as 48 = .ok (.iconst 4, 1) := by decide +kernel
theorem dX7_as_49 : decode cX7_as 49 = .ok (.if_icmp .ne 7, 3) := by decide +kernel
theorem dX7_as_52 : decode cX7_as 52 = .ok (.iconst 1, 1) := by decide +kernel
theorem dX7_as_53 : decode cX7_as 53 = .ok (.goto 4, 3) := by decide +kernel
theorem dX7_as_56 : decode cX7_as 56 = .ok (.iconst 0, 1) := by decide +kernel
theorem dX7_as_57 : decode cX7_as 57 = .ok (.istore 4, 2) := by decide +kernel
theorem dX7_as_59 : decode cX7_as 59 = .ok (.iload 4, 2) := by decide +kernel
theorem dX7_as_61 : decode cX7_as 61 = .ok (.ifCond .eq 7, 3) := by decide +kernel
theorem dX7_as_64 : decode cX7_as 64 = .ok (.iload_n 1, 1) := by decide +kernel
theorem dX7_as_65 : decode cX7_as 65 = .ok (.goto 4, 3) := by decide +kernel
theorem dX7_as_68 : decode cX7_as 68 = .ok (.iconst (-1), 1) := by decide +kernel
theorem dX7_as_69 : decode cX7_as 69 = .ok (.ireturn, 1) := by decide +kernel
theorem dX7_shop_0 : decode cX7_shop 0 = .ok (.aload_n 0, 1) := by decide +kernel
theorem dX7_shop_1 : decode cX7_shop 1 = .ok (.iload_n 1, 1) := by decide +kernel
theorem dX7_shop_2 : decode cX7_shop 2 = .ok (.invokevirtual 80, 3) := by decide +kernel
theorem dX7_shop_5 : decode cX7_shop 5 = .ok (.ifCond .eq 6, 3) := by decide +kernel
theorem dX7_shop_8 : decode cX7_shop 8 = .ok (.bipush (-101), 2) := by decide +kernel
theorem dX7_shop_10 : decode cX7_shop 10 = .ok (.ireturn, 1) := by decide +kernel
theorem dX7_shop_11 : decode cX7_shop 11 = .ok (.iload_n 2, 1) := by decide +kernel
theorem dX7_shop_12 : decode cX7_shop 12 = .ok (.iconst 0, 1) := by decide +kernel
theorem dX7_shop_13 : decode cX7_shop 13 = .ok (.bipush 9, 2) := by decide +kernel
theorem dX7_shop_15 : decode cX7_shop 15 = .ok (.invokestatic 72, 3) := by decide +kernel
theorem dX7_shop_18 : decode cX7_shop 18 = .ok (.ifCond .ne 24, 3) := by decide +kernel
theorem dX7_shop_21 : decode cX7_shop 21 = .ok (.iload_n 3, 1) := by decide +kernel
theorem dX7_shop_22 : decode cX7_shop 22 = .ok (.iconst 0, 1) := by decide +kernel
theorem dX7_shop_23 : decode cX7_shop 23 = .ok (.bipush 9, 2) := by decide +kernel
theorem dX7_shop_25 : decode cX7_shop 25 = .ok (.invokestatic 72, 3) := by decide +kernel
theorem dX7_shop_28 : decode cX7_shop 28 = .ok (.ifCond .ne 14, 3) := by decide +kernel
theorem dX7_shop_31 : decode cX7_shop 31 = .ok (.iload 4, 2) := by decide +kernel
theorem dX7_shop_33 : decode cX7_shop 33 = .ok (.iconst 0, 1) := by decide +kernel
theorem dX7_shop_34 : decode cX7_shop 34 = .ok (.bipush 9, 2) := by decide +kernel
theorem dX7_shop_36 : decode cX7_shop 36 = .ok (.invokestatic 72, 3) := by decide +kernel
theorem dX7_shop_39 : decode cX7_shop 39 = .ok (.ifCond .eq 6, 3) := by decide +kernel
theorem dX7_shop_42 : decode cX7_shop 42 = .ok (.bipush (-102), 2) := by decide +kernel
theorem dX7_shop_44 : decode cX7_shop 44 = .ok (.ireturn, 1) := by decide +kernel
theorem dX7_shop_45 : decode cX7_shop 45 = .ok (.aload_n 0, 1) := by decide +kernel
theorem dX7_shop_46 : decode cX7_shop 46 = .ok (.getfield 21, 3) := by decide +kernel
theorem dX7_shop_49 : decode cX7_shop 49 = .ok (.iload_n 1, 1) := by decide +kernel
theorem dX7_shop_50 : decode cX7_shop 50 = .ok (.invokevirtual 88, 3) := by decide +kernel
theorem dX7_shop_53 : decode cX7_shop 53 = .ok (.iconst 3, 1) := by decide +kernel
theorem dX7_shop_54 : decode cX7_shop 54 = .ok (.if_icmp .lt 6, 3) := by decide +kernel
theorem dX7_shop_57 : decode cX7_shop 57 = .ok (.bipush (-104), 2) := by decide +kernel
theorem dX7_shop_59 : decode cX7_shop 59 = .ok (.ireturn, 1) := by decide +kernel
theorem dX7_shop_60 : decode cX7_shop 60 = .ok (.aload_n 0, 1) := by decide +kernel
theorem dX7_shop_61 : decode cX7_shop 61 = .ok (.getfield 10, 3) := by decide +kernel
theorem dX7_shop_64 : decode cX7_shop 64 = .ok (.iload_n 2, 1) := by decide +kernel
theorem dX7_shop_65 : decode cX7_shop 65 = .ok (.iload_n 3, 1) := by decide +kernel
theorem dX7_shop_66 : decode cX7_shop 66 = .ok (.invokevirtual 92, 3) := by decide +kernel
theorem dX7_shop_69 : decode cX7_shop 69 = .ok (.istore 5, 2) := by decide +kernel
theorem dX7_shop_71 : decode cX7_shop 71 = .ok (.iload 5, 2) := by decide +kernel
theorem dX7_shop_73 : decode cX7_shop 73 = .ok (.bipush (-104), 2) := by decide +kernel
theorem dX7_shop_75 : decode cX7_shop 75 = .ok (.if_icmp .eq 26, 3) := by decide +kernel
theorem dX7_shop_78 : decode cX7_shop 78 = .ok (.aload_n 0, 1) := by decide +kernel
theorem dX7_shop_79 : decode cX7_shop 79 = .ok (.getfield 21, 3) := by decide +kernel
theorem dX7_shop_82 : decode cX7_shop 82 = .ok (.getfield 95, 3) := by decide +kernel
theorem dX7_shop_85 : decode cX7_shop 85 = .ok (.iload 5, 2) := by decide +kernel
theorem dX7_shop_87 : decode cX7_shop 87 = .ok (.iload_n 1, 1) := by decide +kernel
theorem dX7_shop_88 : decode cX7_shop 88 = .ok (.iastore, 1) := by decide +kernel
theorem dX7_shop_89 : decode cX7_shop 89 = .ok (.aload_n 0, 1) := by decide +kernel
theorem dX7_shop_90 : decode cX7_shop 90 = .ok (.getfield 21, 3) := by decide +kernel
theorem dX7_shop_93 : decode cX7_shop 93 = .ok (.getfield 98, 3) := by decide +kernel
theorem dX7_shop_96 : decode cX7_shop 96 = .ok (.iload 5, 2) := by decide +kernel
theorem dX7_shop_98 : decode cX7_shop 98 = .ok (.iload 4, 2) := by decide +kernel
theorem dX7_shop_100 : decode cX7_shop 100 = .ok (.iastore, 1) := by decide +kernel
theorem dX7_shop_101 : decode cX7_shop 101 = .ok (.iload 5, 2) := by decide +kernel
theorem dX7_shop_103 : decode cX7_shop 103 = .ok (.ireturn, 1) := by decide +kernel
theorem dX7_isNoShop_0 : decode cX7_isNoShop 0 = .ok (.iload_n 1, 1) := by decide +kernel
theorem dX7_isNoShop_1 : decode cX7_isNoShop 1 = .ok (.iconst 0, 1) := by decide +kernel
theorem dX7_isNoShop_2 : decode cX7_isNoShop 2 = .ok (.aload_n 0, 1) := by decide +kernel
theorem dX7_isNoShop_3 : decode cX7_isNoShop 3 = .ok (.getfield 10, 3) := by decide +kernel
theorem dX7_isNoShop_6 : decode cX7_isNoShop 6 = .ok (.getfield 175, 3) := by decide +kernel
theorem dX7_isNoShop_9 : decode cX7_isNoShop 9 = .ok (.iconst 1, 1) := by decide +kernel
theorem dX7_isNoShop_10 : decode cX7_isNoShop 10 = .ok (.isub, 1) := by decide +kernel
theorem dX7_isNoShop_11 : decode cX7_isNoShop 11 = .ok (.invokestatic 72, 3) := by decide +kernel
theorem dX7_isNoShop_14 : decode cX7_isNoShop 14 = .ok (.ireturn, 1) := by decide +kernel
theorem dX7_about_0 : decode cX7_about 0 = .ok (.aload_n 0, 1) := by decide +kernel
theorem dX7_about_1 : decode cX7_about 1 = .ok (.iload_n 1, 1) := by decide +kernel
theorem dX7_about_2 : decode cX7_about 2 = .ok (.invokevirtual 101, 3) := by decide +kernel
theorem dX7_about_5 : decode cX7_about 5 = .ok (.ifCond .eq 6, 3) := by decide +kernel
theorem dX7_about_8 : decode cX7_about 8 = .ok (.bipush (-101), 2) := by decide +kernel
theorem dX7_about_10 : decode cX7_about 10 = .ok (.ireturn, 1) := by decide +kernel
theorem dX7_about_11 : decode cX7_about 11 = .ok (.iload_n 2, 1) := by decide +kernel
theorem dX7_about_12 : decode cX7_about 12 = .ok (.tableswitch 108 0 5 #[40, 50, 60, 70, 80, 97], 40) := by decide +kernel
theorem dX7_about_52 : decode cX7_about 52 = .ok (.aload_n 0, 1) := by decide +kernel
theorem dX7_about_53 : decode cX7_about 53 = .ok (.getfield 21, 3) := by decide +kernel
theorem dX7_about_56 : decode cX7_about 56 = .ok (.getfield 95, 3) := by decide +kernel
theorem dX7_about_59 : decode cX7_about 59 = .ok (.iload_n 1, 1) := by decide +kernel
theorem dX7_about_60 : decode cX7_about 60 = .ok (.iaload, 1) := by decide +kernel
theorem dX7_about_61 : decode cX7_about 61 = .ok (.ireturn, 1) := by decide +kernel
theorem dX7_about_62 : decode cX7_about 62 = .ok (.aload_n 0, 1) := by decide +kernel
theorem dX7_about_63 : decode cX7_about 63 = .ok (.getfield 10, 3) := by decide +kernel
theorem dX7_about_66 : decode cX7_about 66 = .ok (.getfield 104, 3) := by decide +kernel
theorem dX7_about_69 : decode cX7_about 69 = .ok (.iload_n 1, 1) := by decide +kernel
theorem dX7_about_70 : decode cX7_about 70 = .ok (.iaload, 1) := by decide +kernel
theorem dX7_about_71 : decode cX7_about 71 = .ok (.ireturn, 1) := by decide +kernel
theorem dX7_about_72 : decode cX7_about 72 = .ok (.aload_n 0, 1) := by decide +kernel
theorem dX7_about_73 : decode cX7_about 73 = .ok (.getfield 10, 3) := by decide +kernel
theorem dX7_about_76 : decode cX7_about 76 = .ok (.getfield 107, 3) := by decide +kernel
theorem dX7_about_79 : decode cX7_about 79 = .ok (.iload_n 1, 1) := by decide +kernel
theorem dX7_about_80 : decode cX7_about 80 = .ok (.iaload, 1) := by decide +kernel
theorem dX7_about_81 : decode cX7_about 81 = .ok (.ireturn, 1) := by decide +kernel
theorem dX7_about_82 : decode cX7_about 82 = .ok (.aload_n 0, 1) := by decide +kernel
theorem dX7_about_83 : decode cX7_about 83 = .ok (.getfield 21, 3) := by decide +kernel
theorem dX7_about_86 : decode cX7_about 86 = .ok (.getfield 98, 3) := by decide +kernel
theorem dX7_about_89 : decode cX7_about 89 = .ok (.iload_n 1, 1) := by decide +kernel
theorem dX7_about_90 : decode cX7_about 90 = .ok (.iaload, 1) := by decide +kernel
theorem dX7_about_91 : decode cX7_about 91 = .ok (.ireturn, 1) := by decide +kernel
theorem dX7_about_92 : decode cX7_about 92 = .ok (.aload_n 0, 1) := by decide +kernel
theorem dX7_about_93 : decode cX7_about 93 = .ok (.getfield 21, 3) := by decide +kernel
theorem dX7_about_96 : decode cX7_about 96 = .ok (.iload_n 1, 1) := by decide +kernel
theorem dX7_about_97 : decode cX7_about 97 = .ok (.invokevirtual 110, 3) := by decide +kernel
theorem dX7_about_100 : decode cX7_about 100 = .ok (.ifCond .eq 7, 3) := by decide +kernel
theorem dX7_about_103 : decode cX7_about 103 = .ok (.iconst 1, 1) := by decide +kernel
theorem dX7_about_104 : decode cX7_about 104 = .ok (.goto 4, 3) := by decide +kernel
theorem dX7_about_107 : decode cX7_about 107 = .ok (.iconst 0, 1) := by decide +kernel
theorem dX7_about_108 : decode cX7_about 108 = .ok (.ireturn, 1) := by decide +kernel
theorem dX7_about_109 : decode cX7_about 109 = .ok (.aload_n 0, 1) := by decide +kernel
theorem dX7_about_110 : decode cX7_about 110 = .ok (.getfield 21, 3) := by decide +kernel
theorem dX7_about_113 : decode cX7_about 113 = .ok (.iconst 1, 1) := by decide +kernel
theorem dX7_about_114 : decode cX7_about 114 = .ok (.iload_n 1, 1) := by decide +kernel
theorem dX7_about_115 : decode cX7_about 115 = .ok (.ishl, 1) := by decide +kernel
theorem dX7_about_116 : decode cX7_about 116 = .ok (.invokevirtual 113, 3) := by decide +kernel
theorem dX7_about_119 : decode cX7_about 119 = .ok (.ireturn, 1) := by decide +kernel
theorem dX7_about_120 : decode cX7_about 120 = .ok (.bipush (-102), 2) := by decide +kernel
theorem dX7_about_122 : decode cX7_about 122 = .ok (.ireturn, 1) := by decide +kernel
theorem dX7_price_0 : decode cX7_price 0 = .ok (.aload_n 0, 1) := by decide +kernel
theorem dX7_price_1 : decode cX7_price 1 = .ok (.iload_n 1, 1) := by decide +kernel
theorem dX7_price_2 : decode cX7_price 2 = .ok (.invokevirtual 101, 3) := by decide +kernel
theorem dX7_price_5 : decode cX7_price 5 = .ok (.ifCond .eq 6, 3) := by decide +kernel
theorem dX7_price_8 : decode cX7_price 8 = .ok (.bipush (-101), 2) := by decide +kernel
theorem dX7_price_10 : decode cX7_price 10 = .ok (.ireturn, 1) := by decide +kernel
theorem dX7_price_11 : decode cX7_price 11 = .ok (.iload_n 2, 1) := by decide +kernel
theorem dX7_price_12 : decode cX7_price 12 = .ok (.iconst 0, 1) := by decide +kernel
theorem dX7_price_13 : decode cX7_price 13 = .ok (.bipush 9, 2) := by decide +kernel
theorem dX7_price_15 : decode cX7_price 15 = .ok (.invokestatic 72, 3) := by decide +kernel
theorem dX7_price_18 : decode cX7_price 18 = .ok (.ifCond .eq 6, 3) := by decide +kernel
theorem dX7_price_21 : decode cX7_price 21 = .ok (.bipush (-102), 2) := by decide +kernel
theorem dX7_price_23 : decode cX7_price 23 = .ok (.ireturn, 1) := by decide +kernel
theorem dX7_price_24 : decode cX7_price 24 = .ok (.aload_n 0, 1) := by decide +kernel
theorem dX7_price_25 : decode cX7_price 25 = .ok (.getfield 21, 3) := by decide +kernel
theorem dX7_price_28 : decode cX7_price 28 = .ok (.getfield 98, 3) := by decide +kernel
theorem dX7_price_31 : decode cX7_price 31 = .ok (.iload_n 1, 1) := by decide +kernel
theorem dX7_price_32 : decode cX7_price 32 = .ok (.iaload, 1) := by decide +kernel
theorem dX7_price_33 : decode cX7_price 33 = .ok (.istore_n 3, 1) := by decide +kernel
theorem dX7_price_34 : decode cX7_price 34 = .ok (.aload_n 0, 1) := by decide +kernel
theorem dX7_price_35 : decode cX7_price 35 = .ok (.getfield 21, 3) := by decide +kernel
theorem dX7_price_38 : decode cX7_price 38 = .ok (.getfield 98, 3) := by decide +kernel
theorem dX7_price_41 : decode cX7_price 41 = .ok (.iload_n 1, 1) := by decide +kernel
theorem dX7_price_42 : decode cX7_price 42 = .ok (.iload_n 2, 1) := by decide +kernel
theorem dX7_price_43 : decode cX7_price 43 = .ok (.iastore, 1) := by decide +kernel
theorem dX7_price_44 : decode cX7_price 44 = .ok (.iload_n 3, 1) := by decide +kernel
theorem dX7_price_45 : decode cX7_price 45 = .ok (.ireturn, 1) := by decide +kernel
theorem dX7_sort_0 : decode cX7_sort 0 = .ok (.iload_n 1, 1) := by decide +kernel
theorem dX7_sort_1 : decode cX7_sort 1 = .ok (.iconst 0, 1) := by decide +kernel
theorem dX7_sort_2 : decode cX7_sort 2 = .ok (.bipush 9, 2) := by decide +kernel
theorem dX7_sort_4 : decode cX7_sort 4 = .ok (.invokestatic 72, 3) := by decide +kernel
theorem dX7_sort_7 : decode cX7_sort 7 = .ok (.ifCond .ne 44, 3) := by decide +kernel
theorem dX7_sort_10 : decode cX7_sort 10 = .ok (.iload_n 2, 1) := by decide +kernel
theorem dX7_sort_11 : decode cX7_sort 11 = .ok (.iconst 1, 1) := by decide +kernel
theorem dX7_sort_12 : decode cX7_sort 12 = .ok (.bipush 50, 2) := by decide +kernel
theorem dX7_sort_14 : decode cX7_sort 14 = .ok (.invokestatic 72, 3) := by decide +kernel
theorem dX7_sort_17 : decode cX7_sort 17 = .ok (.ifCond .ne 34, 3) := by decide +kernel
theorem dX7_sort_20 : decode cX7_sort 20 = .ok (.iload_n 3, 1) := by decide +kernel
theorem dX7_sort_21 : decode cX7_sort 21 = .ok (.iconst 0, 1) := by decide +kernel
theorem dX7_sort_22 : decode cX7_sort 22 = .ok (.iconst 5, 1) := by decide +kernel
theorem dX7_sort_23 : decode cX7_sort 23 = .ok (.invokestatic 72, 3) := by decide +kernel
theorem dX7_sort_26 : decode cX7_sort 26 = .ok (.ifCond .ne 25, 3) := by decide +kernel
theorem dX7_sort_29 : decode cX7_sort 29 = .ok (.iload 4, 2) := by decide +kernel
theorem dX7_sort_31 : decode cX7_sort 31 = .ok (.iconst 0, 1) := by decide +kernel
theorem dX7_sort_32 : decode cX7_sort 32 = .ok (.bipush 30, 2) := by decide +kernel
theorem dX7_sort_34 : decode cX7_sort 34 = .ok (.invokestatic 72, 3) := by decide +kernel
theorem dX7_sort_37 : decode cX7_sort 37 = .ok (.ifCond .ne 14, 3) := by decide +kernel
theorem dX7_sort_40 : decode cX7_sort 40 = .ok (.iload 6, 2) := by decide +kernel
theorem dX7_sort_42 : decode cX7_sort 42 = .ok (.iconst 0, 1) := by decide +kernel
theorem dX7_sort_43 : decode cX7_sort 43 = .ok (.bipush 9, 2) := by decide +kernel
theorem dX7_sort_45 : decode cX7_sort 45 = .ok (.invokestatic 72, 3) := by decide +kernel
theorem dX7_sort_48 : decode cX7_sort 48 = .ok (.ifCond .eq 6, 3) := by decide +kernel
theorem dX7_sort_51 : decode cX7_sort 51 = .ok (.bipush (-102), 2) := by decide +kernel
theorem dX7_sort_53 : decode cX7_sort 53 = .ok (.ireturn, 1) := by decide +kernel
theorem dX7_sort_54 : decode cX7_sort 54 = .ok (.iload 5, 2) := by decide +kernel
theorem dX7_sort_56 : decode cX7_sort 56 = .ok (.iconst (-1), 1) := by decide +kernel
theorem dX7_sort_57 : decode cX7_sort 57 = .ok (.if_icmp .eq 15, 3) := by decide +kernel
theorem dX7_sort_60 : decode cX7_sort 60 = .ok (.aload_n 0, 1) := by decide +kernel
theorem dX7_sort_61 : decode cX7_sort 61 = .ok (.iload 5, 2) := by decide +kernel
theorem dX7_sort_63 : decode cX7_sort 63 = .ok (.invokevirtual 101, 3) := by decide +kernel
theorem dX7_sort_66 : decode cX7_sort 66 = .ok (.ifCond .eq 6, 3) := by decide +kernel
theorem dX7_sort_69 : decode cX7_sort 69 = .ok (.bipush (-101), 2) := by decide +kernel
theorem dX7_sort_71 : decode cX7_sort 71 = .ok (.ireturn, 1) := by decide +kernel
theorem dX7_sort_72 : decode cX7_sort 72 = .ok (.aload_n 0, 1) := by decide +kernel
theorem dX7_sort_73 : decode cX7_sort 73 = .ok (.getfield 10, 3) := by decide +kernel
theorem dX7_sort_76 : decode cX7_sort 76 = .ok (.iload_n 1, 1) := by decide +kernel
theorem dX7_sort_77 : decode cX7_sort 77 = .ok (.iload_n 2, 1) := by decide +kernel
theorem dX7_sort_78 : decode cX7_sort 78 = .ok (.iload_n 3, 1) := by decide +kernel
theorem dX7_sort_79 : decode cX7_sort 79 = .ok (.iload 4, 2) := by decide +kernel
theorem dX7_sort_81 : decode cX7_sort 81 = .ok (.iload 5, 2) := by decide +kernel
theorem dX7_sort_83 : decode cX7_sort 83 = .ok (.iload 6, 2) := by decide +kernel
theorem dX7_sort_85 : decode cX7_sort 85 = .ok (.invokevirtual 116, 3) := by decide +kernel
theorem dX7_sort_88 : decode cX7_sort 88 = .ok (.ireturn, 1) := by decide +kernel
theorem dX7_isNoSort_0 : decode cX7_isNoSort 0 = .ok (.iload_n 1, 1) := by decide +kernel
theorem dX7_isNoSort_1 : decode cX7_isNoSort 1 = .ok (.iconst 0, 1) := by decide +kernel
theorem dX7_isNoSort_2 : decode cX7_isNoSort 2 = .ok (.aload_n 0, 1) := by decide +kernel
theorem dX7_isNoSort_3 : decode cX7_isNoSort 3 = .ok (.getfield 10, 3) := by decide +kernel
theorem dX7_isNoSort_6 : decode cX7_isNoSort 6 = .ok (.getfield 202, 3) := by decide +kernel
theorem dX7_isNoSort_9 : decode cX7_isNoSort 9 = .ok (.iconst 1, 1) := by decide +kernel
theorem dX7_isNoSort_10 : decode cX7_isNoSort 10 = .ok (.isub, 1) := by decide +kernel
theorem dX7_isNoSort_11 : decode cX7_isNoSort 11 = .ok (.invokestatic 72, 3) := by decide +kernel
theorem dX7_isNoSort_14 : decode cX7_isNoSort 14 = .ok (.ireturn, 1) := by decide +kernel
theorem dX7_is_0 : decode cX7_is 0 = .ok (.aload_n 0, 1) := by decide +kernel
theorem dX7_is_1 : decode cX7_is 1 = .ok (.iload_n 1, 1) := by decide +kernel
theorem dX7_is_2 : decode cX7_is 2 = .ok (.invokevirtual 120, 3) := by decide +kernel
theorem dX7_is_5 : decode cX7_is 5 = .ok (.ifCond .ne 11, 3) := by decide +kernel
theorem dX7_is_8 : decode cX7_is 8 = .ok (.aload_n 0, 1) := by decide +kernel
theorem dX7_is_9 : decode cX7_is 9 = .ok (.iload_n 2, 1) := by decide +kernel
theorem dX7_is_10 : decode cX7_is 10 = .ok (.invokevirtual 101, 3) := by decide +kernel
theorem dX7_is_13 : decode cX7_is 13 = .ok (.ifCond .eq 9, 3) := by decide +kernel
theorem dX7_is_16 : decode cX7_is 16 = .ok (.sipush (-1001), 3) := by decide +kernel
theorem dX7_is_19 : decode cX7_is 19 = .ok (.goto 12, 3) := by decide +kernel
theorem dX7_is_22 : decode cX7_is 22 = .ok (.aload_n 0, 1) := by decide +kernel
theorem dX7_is_23 : decode cX7_is 23 = .ok (.getfield 21, 3) := by decide +kernel
theorem dX7_is_26 : decode cX7_is 26 = .ok (.iload_n 1, 1) := by decide +kernel
theorem dX7_is_27 : decode cX7_is 27 = .ok (.iload_n 2, 1) := by decide +kernel
theorem dX7_is_28 : decode cX7_is 28 = .ok (.invokevirtual 123, 3) := by decide +kernel
theorem dX7_is_31 : decode cX7_is 31 = .ok (.ireturn, 1) := by decide +kernel
theorem dX7_goes_0 : decode cX7_goes 0 = .ok (.aload_n 0, 1) := by decide +kernel
theorem dX7_goes_1 : decode cX7_goes 1 = .ok (.iload_n 1, 1) := by decide +kernel
theorem dX7_goes_2 : decode cX7_goes 2 = .ok (.invokevirtual 120, 3) := by decide +kernel
theorem dX7_goes_5 : decode cX7_goes 5 = .ok (.ifCond .eq 8, 3) := by decide +kernel
theorem dX7_goes_8 : decode cX7_goes 8 = .ok (.bipush (-101), 2) := by decide +kernel
theorem dX7_goes_10 : decode cX7_goes 10 = .ok (.goto 12, 3) := by decide +kernel
theorem dX7_goes_13 : decode cX7_goes 13 = .ok (.aload_n 0, 1) := by decide +kernel
theorem dX7_goes_14 : decode cX7_goes 14 = .ok (.getfield 21, 3) := by decide +kernel
theorem dX7_goes_17 : decode cX7_goes 17 = .ok (.iload_n 1, 1) := by decide +kernel
theorem dX7_goes_18 : decode cX7_goes 18 = .ok (.iconst (-1), 1) := by decide +kernel
theorem dX7_goes_19 : decode cX7_goes 19 = .ok (.invokevirtual 126, 3) := by decide +kernel
theorem dX7_goes_22 : decode cX7_goes 22 = .ok (.ireturn, 1) := by decide +kernel
theorem dX7_spare_0 : decode cX7_spare 0 = .ok (.aload_n 0, 1) := by decide +kernel
theorem dX7_spare_1 : decode cX7_spare 1 = .ok (.iload_n 1, 1) := by decide +kernel
theorem dX7_spare_2 : decode cX7_spare 2 = .ok (.invokevirtual 120, 3) := by decide +kernel
theorem dX7_spare_5 : decode cX7_spare 5 = .ok (.ifCond .eq 8, 3) := by decide +kernel
theorem dX7_spare_8 : decode cX7_spare 8 = .ok (.bipush (-101), 2) := by decide +kernel
theorem dX7_spare_10 : decode cX7_spare 10 = .ok (.goto 11, 3) := by decide +kernel
theorem dX7_spare_13 : decode cX7_spare 13 = .ok (.aload_n 0, 1) := by decide +kernel
theorem dX7_spare_14 : decode cX7_spare 14 = .ok (.getfield 21, 3) := by decide +kernel
theorem dX7_spare_17 : decode cX7_spare 17 = .ok (.iload_n 1, 1) := by decide +kernel
theorem dX7_spare_18 : decode cX7_spare 18 = .ok (.invokevirtual 129, 3) := by decide +kernel
theorem dX7_spare_21 : decode cX7_spare 21 = .ok (.ireturn, 1) := by decide +kernel
theorem dX7_profit_0 : decode cX7_profit 0 = .ok (.aload_n 0, 1) := by decide +kernel
theorem dX7_profit_1 : decode cX7_profit 1 = .ok (.iload_n 1, 1) := by decide +kernel
theorem dX7_profit_2 : decode cX7_profit 2 = .ok (.invokevirtual 80, 3) := by decide +kernel
theorem dX7_profit_5 : decode cX7_profit 5 = .ok (.ifCond .eq 8, 3) := by decide +kernel
theorem dX7_profit_8 : decode cX7_profit 8 = .ok (.ldc 132, 2) := by decide +kernel
theorem dX7_profit_10 : decode cX7_profit 10 = .ok (.goto 11, 3) := by decide +kernel
theorem dX7_profit_13 : decode cX7_profit 13 = .ok (.aload_n 0, 1) := by decide +kernel
theorem dX7_profit_14 : decode cX7_profit 14 = .ok (.getfield 21, 3) := by decide +kernel
theorem dX7_profit_17 : decode cX7_profit 17 = .ok (.iload_n 1, 1) := by decide +kernel
theorem dX7_profit_18 : decode cX7_profit 18 = .ok (.invokevirtual 133, 3) := by decide +kernel
theorem dX7_profit_21 : decode cX7_profit 21 = .ok (.ireturn, 1) := by decide +kernel
theorem dX7_best_0 : decode cX7_best 0 = .ok (.aload_n 0, 1) := by decide +kernel
theorem dX7_best_1 : decode cX7_best 1 = .ok (.iload_n 1, 1) := by decide +kernel
theorem dX7_best_2 : decode cX7_best 2 = .ok (.invokevirtual 101, 3) := by decide +kernel
theorem dX7_best_5 : decode cX7_best 5 = .ok (.ifCond .eq 6, 3) := by decide +kernel
theorem dX7_best_8 : decode cX7_best 8 = .ok (.bipush (-101), 2) := by decide +kernel
theorem dX7_best_10 : decode cX7_best 10 = .ok (.ireturn, 1) := by decide +kernel
theorem dX7_best_11 : decode cX7_best 11 = .ok (.iload_n 2, 1) := by decide +kernel
theorem dX7_best_12 : decode cX7_best 12 = .ok (.iconst 0, 1) := by decide +kernel
theorem dX7_best_13 : decode cX7_best 13 = .ok (.iconst 1, 1) := by decide +kernel
theorem dX7_best_14 : decode cX7_best 14 = .ok (.invokestatic 72, 3) := by decide +kernel
theorem dX7_best_17 : decode cX7_best 17 = .ok (.ifCond .eq 6, 3) := by decide +kernel
theorem dX7_best_20 : decode cX7_best 20 = .ok (.bipush (-102), 2) := by decide +kernel
theorem dX7_best_22 : decode cX7_best 22 = .ok (.ireturn, 1) := by decide +kernel
theorem dX7_best_23 : decode cX7_best 23 = .ok (.aload_n 0, 1) := by decide +kernel
theorem dX7_best_24 : decode cX7_best 24 = .ok (.getfield 21, 3) := by decide +kernel
theorem dX7_best_27 : decode cX7_best 27 = .ok (.getfield 95, 3) := by decide +kernel
theorem dX7_best_30 : decode cX7_best 30 = .ok (.iload_n 1, 1) := by decide +kernel
theorem dX7_best_31 : decode cX7_best 31 = .ok (.iaload, 1) := by decide +kernel
theorem dX7_best_32 : decode cX7_best 32 = .ok (.istore_n 3, 1) := by decide +kernel
theorem dX7_best_33 : decode cX7_best 33 = .ok (.aload_n 0, 1) := by decide +kernel
theorem dX7_best_34 : decode cX7_best 34 = .ok (.getfield 34, 3) := by decide +kernel
theorem dX7_best_37 : decode cX7_best 37 = .ok (.aload_n 0, 1) := by decide +kernel
theorem dX7_best_38 : decode cX7_best 38 = .ok (.getfield 21, 3) := by decide +kernel
theorem dX7_best_41 : decode cX7_best 41 = .ok (.iload_n 3, 1) := by decide +kernel
theorem dX7_best_42 : decode cX7_best 42 = .ok (.invokevirtual 136, 3) := by decide +kernel
theorem dX7_best_45 : decode cX7_best 45 = .ok (.iload_n 2, 1) := by decide +kernel
theorem dX7_best_46 : decode cX7_best 46 = .ok (.ifCond .ne 12, 3) := by decide +kernel
theorem dX7_best_49 : decode cX7_best 49 = .ok (.aload_n 0, 1) := by decide +kernel
theorem dX7_best_50 : decode cX7_best 50 = .ok (.getfield 34, 3) := by decide +kernel
theorem dX7_best_53 : decode cX7_best 53 = .ok (.iload_n 1, 1) := by decide +kernel
theorem dX7_best_54 : decode cX7_best 54 = .ok (.invokevirtual 140, 3) := by decide +kernel
theorem dX7_best_57 : decode cX7_best 57 = .ok (.ireturn, 1) := by decide +kernel
theorem dX7_best_58 : decode cX7_best 58 = .ok (.aload_n 0, 1) := by decide +kernel
theorem dX7_best_59 : decode cX7_best 59 = .ok (.getfield 10, 3) := by decide +kernel
theorem dX7_best_62 : decode cX7_best 62 = .ok (.getfield 84, 3) := by decide +kernel
theorem dX7_best_65 : decode cX7_best 65 = .ok (.iload_n 3, 1) := by decide +kernel
theorem dX7_best_66 : decode cX7_best 66 = .ok (.iaload, 1) := by decide +kernel
theorem dX7_best_67 : decode cX7_best 67 = .ok (.iconst 4, 1) := by decide +kernel
theorem dX7_best_68 : decode cX7_best 68 = .ok (.if_icmp .ne 13, 3) := by decide +kernel
theorem dX7_best_71 : decode cX7_best 71 = .ok (.aload_n 0, 1) := by decide +kernel
theorem dX7_best_72 : decode cX7_best 72 = .ok (.getfield 34, 3) := by decide +kernel
theorem dX7_best_75 : decode cX7_best 75 = .ok (.getfield 143, 3) := by decide +kernel
theorem dX7_best_78 : decode cX7_best 78 = .ok (.ifCond .eq 7, 3) := by decide +kernel
theorem dX7_best_81 : decode cX7_best 81 = .ok (.iconst 1, 1) := by decide +kernel
theorem dX7_best_82 : decode cX7_best 82 = .ok (.goto 4, 3) := by decide +kernel
theorem dX7_best_85 : decode cX7_best 85 = .ok (.iconst 0, 1) := by decide +kernel
theorem dX7_best_86 : decode cX7_best 86 = .ok (.ireturn, 1) := by decide +kernel
theorem dX7_turn_0 : decode cX7_turn 0 = .ok (.aload_n 0, 1) := by decide +kernel
theorem dX7_turn_1 : decode cX7_turn 1 = .ok (.iload_n 1, 1) := by decide +kernel
theorem dX7_turn_2 : decode cX7_turn 2 = .ok (.invokevirtual 80, 3) := by decide +kernel
theorem dX7_turn_5 : decode cX7_turn 5 = .ok (.ifCond .eq 6, 3) := by decide +kernel
theorem dX7_turn_8 : decode cX7_turn 8 = .ok (.bipush (-101), 2) := by decide +kernel
theorem dX7_turn_10 : decode cX7_turn 10 = .ok (.ireturn, 1) := by decide +kernel
theorem dX7_turn_11 : decode cX7_turn 11 = .ok (.aload_n 0, 1) := by decide +kernel
theorem dX7_turn_12 : decode cX7_turn 12 = .ok (.getfield 34, 3) := by decide +kernel
theorem dX7_turn_15 : decode cX7_turn 15 = .ok (.aload_n 0, 1) := by decide +kernel
theorem dX7_turn_16 : decode cX7_turn 16 = .ok (.getfield 21, 3) := by decide +kernel
theorem dX7_turn_19 : decode cX7_turn 19 = .ok (.iload_n 1, 1) := by decide +kernel
theorem dX7_turn_20 : decode cX7_turn 20 = .ok (.invokevirtual 136, 3) := by decide +kernel
theorem dX7_turn_23 : decode cX7_turn 23 = .ok (.aload_n 0, 1) := by decide +kernel
theorem dX7_turn_24 : decode cX7_turn 24 = .ok (.getfield 34, 3) := by decide +kernel
theorem dX7_turn_27 : decode cX7_turn 27 = .ok (.aload_n 0, 1) := by decide +kernel
theorem dX7_turn_28 : decode cX7_turn 28 = .ok (.getfield 21, 3) := by decide +kernel
theorem dX7_turn_31 : decode cX7_turn 31 = .ok (.iload_n 1, 1) := by decide +kernel
theorem dX7_turn_32 : decode cX7_turn 32 = .ok (.invokevirtual 147, 3) := by decide +kernel
theorem dX7_turn_35 : decode cX7_turn 35 = .ok (.ireturn, 1) := by decide +kernel
theorem dX7_rest_0 : decode cX7_rest 0 = .ok (.aload_n 0, 1) := by decide +kernel
theorem dX7_rest_1 : decode cX7_rest 1 = .ok (.getfield 25, 3) := by decide +kernel
theorem dX7_rest_4 : decode cX7_rest 4 = .ok (.aload_n 0, 1) := by decide +kernel
theorem dX7_rest_5 : decode cX7_rest 5 = .ok (.getfield 21, 3) := by decide +kernel
theorem dX7_rest_8 : decode cX7_rest 8 = .ok (.invokevirtual 151, 3) := by decide +kernel
theorem dX7_rest_11 : decode cX7_rest 11 = .ok (.aload_n 0, 1) := by decide +kernel
theorem dX7_rest_12 : decode cX7_rest 12 = .ok (.getfield 34, 3) := by decide +kernel
theorem dX7_rest_15 : decode cX7_rest 15 = .ok (.aload_n 0, 1) := by decide +kernel
theorem dX7_rest_16 : decode cX7_rest 16 = .ok (.getfield 25, 3) := by decide +kernel
theorem dX7_rest_19 : decode cX7_rest 19 = .ok (.invokevirtual 155, 3) := by decide +kernel
theorem dX7_rest_22 : decode cX7_rest 22 = .ok (.istore_n 1, 1) := by decide +kernel
theorem dX7_rest_23 : decode cX7_rest 23 = .ok (.iload_n 1, 1) := by decide +kernel
theorem dX7_rest_24 : decode cX7_rest 24 = .ok (.iconst (-1), 1) := by decide +kernel
theorem dX7_rest_25 : decode cX7_rest 25 = .ok (.if_icmp .ne 6, 3) := by decide +kernel
theorem dX7_rest_28 : decode cX7_rest 28 = .ok (.bipush (-103), 2) := by decide +kernel
theorem dX7_rest_30 : decode cX7_rest 30 = .ok (.ireturn, 1) := by decide +kernel
theorem dX7_rest_31 : decode cX7_rest 31 = .ok (.aload_n 0, 1) := by decide +kernel
theorem dX7_rest_32 : decode cX7_rest 32 = .ok (.getfield 21, 3) := by decide +kernel
theorem dX7_rest_35 : decode cX7_rest 35 = .ok (.aload_n 0, 1) := by decide +kernel
theorem dX7_rest_36 : decode cX7_rest 36 = .ok (.getfield 25, 3) := by decide +kernel
theorem dX7_rest_39 : decode cX7_rest 39 = .ok (.invokevirtual 151, 3) := by decide +kernel
theorem dX7_rest_42 : decode cX7_rest 42 = .ok (.iload_n 1, 1) := by decide +kernel
theorem dX7_rest_43 : decode cX7_rest 43 = .ok (.ireturn, 1) := by decide +kernel
theorem dX7_gainOf_0 : decode cX7_gainOf 0 = .ok (.aload_n 0, 1) := by decide +kernel
theorem dX7_gainOf_1 : decode cX7_gainOf 1 = .ok (.getfield 34, 3) := by decide +kernel
theorem dX7_gainOf_4 : decode cX7_gainOf 4 = .ok (.aload_n 0, 1) := by decide +kernel
theorem dX7_gainOf_5 : decode cX7_gainOf 5 = .ok (.getfield 21, 3) := by decide +kernel
theorem dX7_gainOf_8 : decode cX7_gainOf 8 = .ok (.iload_n 1, 1) := by decide +kernel
theorem dX7_gainOf_9 : decode cX7_gainOf 9 = .ok (.invokevirtual 136, 3) := by decide +kernel
theorem dX7_gainOf_12 : decode cX7_gainOf 12 = .ok (.aload_n 0, 1) := by decide +kernel
theorem dX7_gainOf_13 : decode cX7_gainOf 13 = .ok (.getfield 34, 3) := by decide +kernel
theorem dX7_gainOf_16 : decode cX7_gainOf 16 = .ok (.getfield 166, 3) := by decide +kernel
theorem dX7_gainOf_19 : decode cX7_gainOf 19 = .ok (.aload_n 0, 1) := by decide +kernel
theorem dX7_gainOf_20 : decode cX7_gainOf 20 = .ok (.getfield 21, 3) := by decide +kernel
theorem dX7_gainOf_23 : decode cX7_gainOf 23 = .ok (.iload_n 1, 1) := by decide +kernel
theorem dX7_gainOf_24 : decode cX7_gainOf 24 = .ok (.invokevirtual 133, 3) := by decide +kernel
theorem dX7_gainOf_27 : decode cX7_gainOf 27 = .ok (.isub, 1) := by decide +kernel
theorem dX7_gainOf_28 : decode cX7_gainOf 28 = .ok (.ireturn, 1) := by decide +kernel
theorem dX7_otherwise_0 : decode cX7_otherwise 0 = .ok (.iconst 0, 1) := by decide +kernel
theorem dX7_otherwise_1 : decode cX7_otherwise 1 = .ok (.istore_n 1, 1) := by decide +kernel
theorem dX7_otherwise_2 : decode cX7_otherwise 2 = .ok (.iload_n 1, 1) := by decide +kernel
theorem dX7_otherwise_3 : decode cX7_otherwise 3 = .ok (.aload_n 0, 1) := by decide +kernel
theorem dX7_otherwise_4 : decode cX7_otherwise 4 = .ok (.getfield 10, 3) := by decide +kernel
theorem dX7_otherwise_7 : decode cX7_otherwise 7 = .ok (.getfield 159, 3) := by decide +kernel
theorem dX7_otherwise_10 : decode cX7_otherwise 10 = .ok (.if_icmp .ge 19, 3) := by decide +kernel
theorem dX7_otherwise_13 : decode cX7_otherwise 13 = .ok (.aload_n 0, 1) := by decide +kernel
theorem dX7_otherwise_14 : decode cX7_otherwise 14 = .ok (.iload_n 1, 1) := by decide +kernel
theorem dX7_otherwise_15 : decode cX7_otherwise 15 = .ok (.invokevirtual 163, 3) := by decide +kernel
theorem dX7_otherwise_18 : decode cX7_otherwise 18 = .ok (.ifCond .le 5, 3) := by decide +kernel
theorem dX7_otherwise_21 : decode cX7_otherwise 21 = .ok (.iload_n 1, 1) := by decide +kernel
theorem dX7_otherwise_22 : decode cX7_otherwise 22 = .ok (.ireturn, 1) := by decide +kernel
theorem dX7_otherwise_23 : decode cX7_otherwise 23 = .ok (.iinc 1 1, 3) := by decide +kernel
theorem dX7_otherwise_26 : decode cX7_otherwise 26 = .ok (.goto (-24), 3) := by decide +kernel
theorem dX7_otherwise_29 : decode cX7_otherwise 29 = .ok (.iconst (-1), 1) := by decide +kernel
theorem dX7_otherwise_30 : decode cX7_otherwise 30 = .ok (.ireturn, 1) := by decide +kernel
theorem dX7_gain_0 : decode cX7_gain 0 = .ok (.aload_n 0, 1) := by decide +kernel
theorem dX7_gain_1 : decode cX7_gain 1 = .ok (.iload_n 1, 1) := by decide +kernel
theorem dX7_gain_2 : decode cX7_gain 2 = .ok (.invokevirtual 80, 3) := by decide +kernel
theorem dX7_gain_5 : decode cX7_gain 5 = .ok (.ifCond .eq 8, 3) := by decide +kernel
theorem dX7_gain_8 : decode cX7_gain 8 = .ok (.ldc 132, 2) := by decide +kernel
theorem dX7_gain_10 : decode cX7_gain 10 = .ok (.goto 8, 3) := by decide +kernel
theorem dX7_gain_13 : decode cX7_gain 13 = .ok (.aload_n 0, 1) := by decide +kernel
theorem dX7_gain_14 : decode cX7_gain 14 = .ok (.iload_n 1, 1) := by decide +kernel
theorem dX7_gain_15 : decode cX7_gain 15 = .ok (.invokevirtual 163, 3) := by decide +kernel
theorem dX7_gain_18 : decode cX7_gain 18 = .ok (.ireturn, 1) := by decide +kernel
theorem dX7_wouldPay_0 : decode cX7_wouldPay 0 = .ok (.aload_n 0, 1) := by decide +kernel
theorem dX7_wouldPay_1 : decode cX7_wouldPay 1 = .ok (.getfield 25, 3) := by decide +kernel
theorem dX7_wouldPay_4 : decode cX7_wouldPay 4 = .ok (.aload_n 0, 1) := by decide +kernel
theorem dX7_wouldPay_5 : decode cX7_wouldPay 5 = .ok (.getfield 21, 3) := by decide +kernel
theorem dX7_wouldPay_8 : decode cX7_wouldPay 8 = .ok (.invokevirtual 151, 3) := by decide +kernel
theorem dX7_wouldPay_11 : decode cX7_wouldPay 11 = .ok (.iconst 0, 1) := by decide +kernel
theorem dX7_wouldPay_12 : decode cX7_wouldPay 12 = .ok (.istore_n 3, 1) := by decide +kernel
theorem dX7_wouldPay_13 : decode cX7_wouldPay 13 = .ok (.iload_n 3, 1) := by decide +kernel
theorem dX7_wouldPay_14 : decode cX7_wouldPay 14 = .ok (.aload_n 0, 1) := by decide +kernel
theorem dX7_wouldPay_15 : decode cX7_wouldPay 15 = .ok (.getfield 10, 3) := by decide +kernel
theorem dX7_wouldPay_18 : decode cX7_wouldPay 18 = .ok (.getfield 175, 3) := by decide +kernel
theorem dX7_wouldPay_21 : decode cX7_wouldPay 21 = .ok (.if_icmp .ge 43, 3) := by decide +kernel
theorem dX7_wouldPay_24 : decode cX7_wouldPay 24 = .ok (.iload_n 1, 1) := by decide +kernel
theorem dX7_wouldPay_25 : decode cX7_wouldPay 25 = .ok (.iload_n 3, 1) := by decide +kernel
theorem dX7_wouldPay_26 : decode cX7_wouldPay 26 = .ok (.ishr, 1) := by decide +kernel
theorem dX7_wouldPay_27 : decode cX7_wouldPay 27 = .ok (.iconst 1, 1) := by decide +kernel
theorem dX7_wouldPay_28 : decode cX7_wouldPay 28 = .ok (.iand, 1) := by decide +kernel
theorem dX7_wouldPay_29 : decode cX7_wouldPay 29 = .ok (.iconst 1, 1) := by decide +kernel
theorem dX7_wouldPay_30 : decode cX7_wouldPay 30 = .ok (.if_icmp .ne 28, 3) := by decide +kernel
theorem dX7_wouldPay_33 : decode cX7_wouldPay 33 = .ok (.aload_n 0, 1) := by decide +kernel
theorem dX7_wouldPay_34 : decode cX7_wouldPay 34 = .ok (.getfield 25, 3) := by decide +kernel
theorem dX7_wouldPay_37 : decode cX7_wouldPay 37 = .ok (.getfield 98, 3) := by decide +kernel
theorem dX7_wouldPay_40 : decode cX7_wouldPay 40 = .ok (.iload_n 3, 1) := by decide +kernel
theorem dX7_wouldPay_41 : decode cX7_wouldPay 41 = .ok (.bipush 9, 2) := by decide +kernel
theorem dX7_wouldPay_43 : decode cX7_wouldPay 43 = .ok (.aload_n 0, 1) := by decide +kernel
theorem dX7_wouldPay_44 : decode cX7_wouldPay 44 = .ok (.getfield 21, 3) := by decide +kernel
theorem dX7_wouldPay_47 : decode cX7_wouldPay 47 = .ok (.getfield 98, 3) := by decide +kernel
theorem dX7_wouldPay_50 : decode cX7_wouldPay 50 = .ok (.iload_n 3, 1) := by decide +kernel
theorem dX7_wouldPay_51 : decode cX7_wouldPay 51 = .ok (.iaload, 1) := by decide +kernel
theorem dX7_wouldPay_52 : decode cX7_wouldPay 52 = .ok (.iload_n 2, 1) := by decide +kernel
theorem dX7_wouldPay_53 : decode cX7_wouldPay 53 = .ok (.iadd, 1) := by decide +kernel
theorem dX7_wouldPay_54 : decode cX7_wouldPay 54 = .ok (.invokestatic 194, 3) := by decide +kernel
theorem dX7_wouldPay_57 : decode cX7_wouldPay 57 = .ok (.iastore, 1) := by decide +kernel
theorem dX7_wouldPay_58 : decode cX7_wouldPay 58 = .ok (.iinc 3 1, 3) := by decide +kernel
theorem dX7_wouldPay_61 : decode cX7_wouldPay 61 = .ok (.goto (-48), 3) := by decide +kernel
theorem dX7_wouldPay_64 : decode cX7_wouldPay 64 = .ok (.aload_n 0, 1) := by decide +kernel
theorem dX7_wouldPay_65 : decode cX7_wouldPay 65 = .ok (.getfield 25, 3) := by decide +kernel
theorem dX7_wouldPay_68 : decode cX7_wouldPay 68 = .ok (.iload_n 1, 1) := by decide +kernel
theorem dX7_wouldPay_69 : decode cX7_wouldPay 69 = .ok (.invokevirtual 199, 3) := by decide +kernel
theorem dX7_wouldPay_72 : decode cX7_wouldPay 72 = .ok (.aload_n 0, 1) := by decide +kernel
theorem dX7_wouldPay_73 : decode cX7_wouldPay 73 = .ok (.getfield 21, 3) := by decide +kernel
theorem dX7_wouldPay_76 : decode cX7_wouldPay 76 = .ok (.iload_n 1, 1) := by decide +kernel
theorem dX7_wouldPay_77 : decode cX7_wouldPay 77 = .ok (.invokevirtual 199, 3) := by decide +kernel
theorem dX7_wouldPay_80 : decode cX7_wouldPay 80 = .ok (.if_icmp .lt 7, 3) := by decide +kernel
theorem dX7_wouldPay_83 : decode cX7_wouldPay 83 = .ok (.iconst 1, 1) := by decide +kernel
theorem dX7_wouldPay_84 : decode cX7_wouldPay 84 = .ok (.goto 4, 3) := by decide +kernel
theorem dX7_wouldPay_87 : decode cX7_wouldPay 87 = .ok (.iconst 0, 1) := by decide +kernel
theorem dX7_wouldPay_88 : decode cX7_wouldPay 88 = .ok (.ireturn, 1) := by decide +kernel
theorem dX7_leastMarket_0 : decode cX7_leastMarket 0 = .ok (.aload_n 0, 1) := by decide +kernel
theorem dX7_leastMarket_1 : decode cX7_leastMarket 1 = .ok (.getfield 21, 3) := by decide +kernel
theorem dX7_leastMarket_4 : decode cX7_leastMarket 4 = .ok (.invokevirtual 185, 3) := by decide +kernel
theorem dX7_leastMarket_7 : decode cX7_leastMarket 7 = .ok (.istore_n 3, 1) := by decide +kernel
theorem dX7_leastMarket_8 : decode cX7_leastMarket 8 = .ok (.iconst 1, 1) := by decide +kernel
theorem dX7_leastMarket_9 : decode cX7_leastMarket 9 = .ok (.istore 4, 2) := by decide +kernel
theorem dX7_leastMarket_11 : decode cX7_leastMarket 11 = .ok (.iload 4, 2) := by decide +kernel
theorem dX7_leastMarket_13 : decode cX7_leastMarket 13 = .ok (.aload_n 0, 1) := by decide +kernel
theorem dX7_leastMarket_14 : decode cX7_leastMarket 14 = .ok (.getfield 10, 3) := by decide +kernel
theorem dX7_leastMarket_17 : decode cX7_leastMarket 17 = .ok (.getfield 175, 3) := by decide +kernel
theorem dX7_leastMarket_20 : decode cX7_leastMarket 20 = .ok (.if_icmp .gt 88, 3) := by decide +kernel
theorem dX7_leastMarket_23 : decode cX7_leastMarket 23 = .ok (.iconst 1, 1) := by decide +kernel
theorem dX7_leastMarket_24 : decode cX7_leastMarket 24 = .ok (.iload_n 1, 1) := by decide +kernel
theorem dX7_leastMarket_25 : decode cX7_leastMarket 25 = .ok (.ishl, 1) := by decide +kernel
theorem dX7_leastMarket_26 : decode cX7_leastMarket 26 = .ok (.istore 5, 2) := by decide +kernel
theorem dX7_leastMarket_28 : decode cX7_leastMarket 28 = .ok (.iload 5, 2) := by decide +kernel
theorem dX7_leastMarket_30 : decode cX7_leastMarket 30 = .ok (.iconst 1, 1) := by decide +kernel
theorem dX7_leastMarket_31 : decode cX7_leastMarket 31 = .ok (.aload_n 0, 1) := by decide +kernel
theorem dX7_leastMarket_32 : decode cX7_leastMarket 32 = .ok (.getfield 10, 3) := by decide +kernel
theorem dX7_leastMarket_35 : decode cX7_leastMarket 35 = .ok (.getfield 175, 3) := by decide +kernel
theorem dX7_leastMarket_38 : decode cX7_leastMarket 38 = .ok (.ishl, 1) := by decide +kernel
theorem dX7_leastMarket_39 : decode cX7_leastMarket 39 = .ok (.if_icmp .ge 63, 3) := by decide +kernel
theorem dX7_leastMarket_42 : decode cX7_leastMarket 42 = .ok (.iload 5, 2) := by decide +kernel
theorem dX7_leastMarket_44 : decode cX7_leastMarket 44 = .ok (.invokestatic 189, 3) := by decide +kernel
theorem dX7_leastMarket_47 : decode cX7_leastMarket 47 = .ok (.iload 4, 2) := by decide +kernel
theorem dX7_leastMarket_49 : decode cX7_leastMarket 49 = .ok (.if_icmp .ne 26, 3) := by decide +kernel
theorem dX7_leastMarket_52 : decode cX7_leastMarket 52 = .ok (.iload 5, 2) := by decide +kernel
theorem dX7_leastMarket_54 : decode cX7_leastMarket 54 = .ok (.iload_n 1, 1) := by decide +kernel
theorem dX7_leastMarket_55 : decode cX7_leastMarket 55 = .ok (.ishr, 1) := by decide +kernel
theorem dX7_leastMarket_56 : decode cX7_leastMarket 56 = .ok (.iconst 1, 1) := by decide +kernel
theorem dX7_leastMarket_57 : decode cX7_leastMarket 57 = .ok (.iand, 1) := by decide +kernel
theorem dX7_leastMarket_58 : decode cX7_leastMarket 58 = .ok (.iconst 1, 1) := by decide +kernel
theorem dX7_leastMarket_59 : decode cX7_leastMarket 59 = .ok (.if_icmp .ne 16, 3) := by decide +kernel
theorem dX7_leastMarket_62 : decode cX7_leastMarket 62 = .ok (.iload 5, 2) := by decide +kernel
theorem dX7_leastMarket_64 : decode cX7_leastMarket 64 = .ok (.iload_n 3, 1) := by decide +kernel
theorem dX7_leastMarket_65 : decode cX7_leastMarket 65 = .ok (.iconst (-1), 1) := by decide +kernel
theorem dX7_leastMarket_66 : decode cX7_leastMarket 66 = .ok (.ixor, 1) := by decide +kernel
theorem dX7_leastMarket_67 : decode cX7_leastMarket 67 = .ok (.iand, 1) := by decide +kernel
theorem dX7_leastMarket_68 : decode cX7_leastMarket 68 = .ok (.ifCond .ne 7, 3) := by decide +kernel
theorem dX7_leastMarket_71 : decode cX7_leastMarket 71 = .ok (.iconst 1, 1) := by decide +kernel
theorem dX7_leastMarket_72 : decode cX7_leastMarket 72 = .ok (.goto 4, 3) := by decide +kernel
theorem dX7_leastMarket_75 : decode cX7_leastMarket 75 = .ok (.iconst 0, 1) := by decide +kernel
theorem dX7_leastMarket_76 : decode cX7_leastMarket 76 = .ok (.istore 6, 2) := by decide +kernel
theorem dX7_leastMarket_78 : decode cX7_leastMarket 78 = .ok (.iload 6, 2) := by decide +kernel
theorem dX7_leastMarket_80 : decode cX7_leastMarket 80 = .ok (.ifCond .eq 16, 3) := by decide +kernel
theorem dX7_leastMarket_83 : decode cX7_leastMarket 83 = .ok (.aload_n 0, 1) := by decide +kernel
theorem dX7_leastMarket_84 : decode cX7_leastMarket 84 = .ok (.iload 5, 2) := by decide +kernel
theorem dX7_leastMarket_86 : decode cX7_leastMarket 86 = .ok (.iload_n 2, 1) := by decide +kernel
theorem dX7_leastMarket_87 : decode cX7_leastMarket 87 = .ok (.invokevirtual 178, 3) := by decide +kernel
theorem dX7_leastMarket_90 : decode cX7_leastMarket 90 = .ok (.ifCond .eq 6, 3) := by decide +kernel
theorem dX7_leastMarket_93 : decode cX7_leastMarket 93 = .ok (.iload 5, 2) := by decide +kernel
theorem dX7_leastMarket_95 : decode cX7_leastMarket 95 = .ok (.ireturn, 1) := by decide +kernel
theorem dX7_leastMarket_96 : decode cX7_leastMarket 96 = .ok (.iinc 5 1, 3) := by decide +kernel
theorem dX7_leastMarket_99 : decode cX7_leastMarket 99 = .ok (.goto (-71), 3) := by decide +kernel
theorem dX7_leastMarket_102 : decode cX7_leastMarket 102 = .ok (.iinc 4 1, 3) := by decide +kernel
theorem dX7_leastMarket_105 : decode cX7_leastMarket 105 = .ok (.goto (-94), 3) := by decide +kernel
theorem dX7_leastMarket_108 : decode cX7_leastMarket 108 = .ok (.iconst (-1), 1) := by decide +kernel
theorem dX7_leastMarket_109 : decode cX7_leastMarket 109 = .ok (.ireturn, 1) := by decide +kernel
theorem dX7_nearMarket_0 : decode cX7_nearMarket 0 = .ok (.iconst 1, 1) := by decide +kernel
theorem dX7_nearMarket_1 : decode cX7_nearMarket 1 = .ok (.iload_n 1, 1) := by decide +kernel
theorem dX7_nearMarket_2 : decode cX7_nearMarket 2 = .ok (.ishl, 1) := by decide +kernel
theorem dX7_nearMarket_3 : decode cX7_nearMarket 3 = .ok (.istore_n 3, 1) := by decide +kernel
theorem dX7_nearMarket_4 : decode cX7_nearMarket 4 = .ok (.iconst 1, 1) := by decide +kernel
theorem dX7_nearMarket_5 : decode cX7_nearMarket 5 = .ok (.istore 4, 2) := by decide +kernel
theorem dX7_nearMarket_7 : decode cX7_nearMarket 7 = .ok (.iload 4, 2) := by decide +kernel
theorem dX7_nearMarket_9 : decode cX7_nearMarket 9 = .ok (.aload_n 0, 1) := by decide +kernel
theorem dX7_nearMarket_10 : decode cX7_nearMarket 10 = .ok (.getfield 10, 3) := by decide +kernel
theorem dX7_nearMarket_13 : decode cX7_nearMarket 13 = .ok (.getfield 175, 3) := by decide +kernel
theorem dX7_nearMarket_16 : decode cX7_nearMarket 16 = .ok (.if_icmp .gt 46, 3) := by decide +kernel
theorem dX7_nearMarket_19 : decode cX7_nearMarket 19 = .ok (.aload_n 0, 1) := by decide +kernel
theorem dX7_nearMarket_20 : decode cX7_nearMarket 20 = .ok (.iload_n 3, 1) := by decide +kernel
theorem dX7_nearMarket_21 : decode cX7_nearMarket 21 = .ok (.iload_n 2, 1) := by decide +kernel
theorem dX7_nearMarket_22 : decode cX7_nearMarket 22 = .ok (.invokevirtual 178, 3) := by decide +kernel
theorem dX7_nearMarket_25 : decode cX7_nearMarket 25 = .ok (.ifCond .eq 5, 3) := by decide +kernel
theorem dX7_nearMarket_28 : decode cX7_nearMarket 28 = .ok (.iload_n 3, 1) := by decide +kernel
theorem dX7_nearMarket_29 : decode cX7_nearMarket 29 = .ok (.ireturn, 1) := by decide +kernel
theorem dX7_nearMarket_30 : decode cX7_nearMarket 30 = .ok (.aload_n 0, 1) := by decide +kernel
theorem dX7_nearMarket_31 : decode cX7_nearMarket 31 = .ok (.getfield 21, 3) := by decide +kernel
theorem dX7_nearMarket_34 : decode cX7_nearMarket 34 = .ok (.iload_n 1, 1) := by decide +kernel
theorem dX7_nearMarket_35 : decode cX7_nearMarket 35 = .ok (.iload_n 3, 1) := by decide +kernel
theorem dX7_nearMarket_36 : decode cX7_nearMarket 36 = .ok (.invokevirtual 182, 3) := by decide +kernel
theorem dX7_nearMarket_39 : decode cX7_nearMarket 39 = .ok (.istore 5, 2) := by decide +kernel
theorem dX7_nearMarket_41 : decode cX7_nearMarket 41 = .ok (.iload 5, 2) := by decide +kernel
theorem dX7_nearMarket_43 : decode cX7_nearMarket 43 = .ok (.iconst (-1), 1) := by decide +kernel
theorem dX7_nearMarket_44 : decode cX7_nearMarket 44 = .ok (.if_icmp .ne 5, 3) := by decide +kernel
theorem dX7_nearMarket_47 : decode cX7_nearMarket 47 = .ok (.iconst (-1), 1) := by decide +kernel
theorem dX7_nearMarket_48 : decode cX7_nearMarket 48 = .ok (.ireturn, 1) := by decide +kernel
theorem dX7_nearMarket_49 : decode cX7_nearMarket 49 = .ok (.iload_n 3, 1) := by decide +kernel
theorem dX7_nearMarket_50 : decode cX7_nearMarket 50 = .ok (.iconst 1, 1) := by decide +kernel
theorem dX7_nearMarket_51 : decode cX7_nearMarket 51 = .ok (.iload 5, 2) := by decide +kernel
theorem dX7_nearMarket_53 : decode cX7_nearMarket 53 = .ok (.ishl, 1) := by decide +kernel
theorem dX7_nearMarket_54 : decode cX7_nearMarket 54 = .ok (.ior, 1) := by decide +kernel
theorem dX7_nearMarket_55 : decode cX7_nearMarket 55 = .ok (.istore_n 3, 1) := by decide +kernel
theorem dX7_nearMarket_56 : decode cX7_nearMarket 56 = .ok (.iinc 4 1, 3) := by decide +kernel
theorem dX7_nearMarket_59 : decode cX7_nearMarket 59 = .ok (.goto (-52), 3) := by decide +kernel
theorem dX7_nearMarket_62 : decode cX7_nearMarket 62 = .ok (.iconst (-1), 1) := by decide +kernel
theorem dX7_nearMarket_63 : decode cX7_nearMarket 63 = .ok (.ireturn, 1) := by decide +kernel
theorem dX7_market_0 : decode cX7_market 0 = .ok (.aload_n 0, 1) := by decide +kernel
theorem dX7_market_1 : decode cX7_market 1 = .ok (.iload_n 1, 1) := by decide +kernel
theorem dX7_market_2 : decode cX7_market 2 = .ok (.invokevirtual 101, 3) := by decide +kernel
theorem dX7_market_5 : decode cX7_market 5 = .ok (.ifCond .eq 6, 3) := by decide +kernel
theorem dX7_market_8 : decode cX7_market 8 = .ok (.bipush (-101), 2) := by decide +kernel
theorem dX7_market_10 : decode cX7_market 10 = .ok (.ireturn, 1) := by decide +kernel
theorem dX7_market_11 : decode cX7_market 11 = .ok (.iload_n 2, 1) := by decide +kernel
theorem dX7_market_12 : decode cX7_market 12 = .ok (.iconst 1, 1) := by decide +kernel
theorem dX7_market_13 : decode cX7_market 13 = .ok (.iconst 5, 1) := by decide +kernel
theorem dX7_market_14 : decode cX7_market 14 = .ok (.invokestatic 72, 3) := by decide +kernel
theorem dX7_market_17 : decode cX7_market 17 = .ok (.ifCond .eq 6, 3) := by decide +kernel
theorem dX7_market_20 : decode cX7_market 20 = .ok (.bipush (-102), 2) := by decide +kernel
theorem dX7_market_22 : decode cX7_market 22 = .ok (.ireturn, 1) := by decide +kernel
theorem dX7_market_23 : decode cX7_market 23 = .ok (.aload_n 0, 1) := by decide +kernel
theorem dX7_market_24 : decode cX7_market 24 = .ok (.getfield 21, 3) := by decide +kernel
theorem dX7_market_27 : decode cX7_market 27 = .ok (.iload_n 1, 1) := by decide +kernel
theorem dX7_market_28 : decode cX7_market 28 = .ok (.invokevirtual 110, 3) := by decide +kernel
theorem dX7_market_31 : decode cX7_market 31 = .ok (.ifCond .ne 6, 3) := by decide +kernel
theorem dX7_market_34 : decode cX7_market 34 = .ok (.bipush (-103), 2) := by decide +kernel
theorem dX7_market_36 : decode cX7_market 36 = .ok (.ireturn, 1) := by decide +kernel
theorem dX7_market_37 : decode cX7_market 37 = .ok (.iload_n 3, 1) := by decide +kernel
theorem dX7_market_38 : decode cX7_market 38 = .ok (.ifCond .eq 12, 3) := by decide +kernel
theorem dX7_market_41 : decode cX7_market 41 = .ok (.aload_n 0, 1) := by decide +kernel
theorem dX7_market_42 : decode cX7_market 42 = .ok (.iload_n 1, 1) := by decide +kernel
theorem dX7_market_43 : decode cX7_market 43 = .ok (.iload_n 2, 1) := by decide +kernel
theorem dX7_market_44 : decode cX7_market 44 = .ok (.invokevirtual 169, 3) := by decide +kernel
theorem dX7_market_47 : decode cX7_market 47 = .ok (.goto 9, 3) := by decide +kernel
theorem dX7_market_50 : decode cX7_market 50 = .ok (.aload_n 0, 1) := by decide +kernel
theorem dX7_market_51 : decode cX7_market 51 = .ok (.iload_n 1, 1) := by decide +kernel
theorem dX7_market_52 : decode cX7_market 52 = .ok (.iload_n 2, 1) := by decide +kernel
theorem dX7_market_53 : decode cX7_market 53 = .ok (.invokevirtual 172, 3) := by decide +kernel
theorem dX7_market_56 : decode cX7_market 56 = .ok (.ireturn, 1) := by decide +kernel
theorem dX7_instead_0 : decode cX7_instead 0 = .ok (.aload_n 0, 1) := by decide +kernel
theorem dX7_instead_1 : decode cX7_instead 1 = .ok (.iload_n 1, 1) := by decide +kernel
theorem dX7_instead_2 : decode cX7_instead 2 = .ok (.invokevirtual 120, 3) := by decide +kernel
theorem dX7_instead_5 : decode cX7_instead 5 = .ok (.ifCond .ne 11, 3) := by decide +kernel
theorem dX7_instead_8 : decode cX7_instead 8 = .ok (.aload_n 0, 1) := by decide +kernel
theorem dX7_instead_9 : decode cX7_instead 9 = .ok (.iload_n 2, 1) := by decide +kernel
theorem dX7_instead_10 : decode cX7_instead 10 = .ok (.invokevirtual 101, 3) := by decide +kernel
theorem dX7_instead_13 : decode cX7_instead 13 = .ok (.ifCond .eq 8, 3) := by decide +kernel
theorem dX7_instead_16 : decode cX7_instead 16 = .ok (.bipush (-101), 2) := by decide +kernel
theorem dX7_instead_18 : decode cX7_instead 18 = .ok (.goto 12, 3) := by decide +kernel
theorem dX7_instead_21 : decode cX7_instead 21 = .ok (.aload_n 0, 1) := by decide +kernel
theorem dX7_instead_22 : decode cX7_instead 22 = .ok (.getfield 21, 3) := by decide +kernel
theorem dX7_instead_25 : decode cX7_instead 25 = .ok (.iload_n 1, 1) := by decide +kernel
theorem dX7_instead_26 : decode cX7_instead 26 = .ok (.iload_n 2, 1) := by decide +kernel
theorem dX7_instead_27 : decode cX7_instead 27 = .ok (.invokevirtual 126, 3) := by decide +kernel
theorem dX7_instead_30 : decode cX7_instead 30 = .ok (.ireturn, 1) := by decide +kernel
theorem dX7_from_0 : decode cX7_from 0 = .ok (.aload_n 0, 1) := by decide +kernel
theorem dX7_from_1 : decode cX7_from 1 = .ok (.iload_n 1, 1) := by decide +kernel
theorem dX7_from_2 : decode cX7_from 2 = .ok (.invokevirtual 101, 3) := by decide +kernel
theorem dX7_from_5 : decode cX7_from 5 = .ok (.ifCond .ne 16, 3) := by decide +kernel
theorem dX7_from_8 : decode cX7_from 8 = .ok (.aload_n 0, 1) := by decide +kernel
theorem dX7_from_9 : decode cX7_from 9 = .ok (.iload_n 2, 1) := by decide +kernel
theorem dX7_from_10 : decode cX7_from 10 = .ok (.invokevirtual 101, 3) := by decide +kernel
theorem dX7_from_13 : decode cX7_from 13 = .ok (.ifCond .ne 8, 3) := by decide +kernel
theorem dX7_from_16 : decode cX7_from 16 = .ok (.iload_n 1, 1) := by decide +kernel
theorem dX7_from_17 : decode cX7_from 17 = .ok (.iload_n 2, 1) := by decide +kernel
theorem dX7_from_18 : decode cX7_from 18 = .ok (.if_icmp .ne 6, 3) := by decide +kernel
theorem dX7_from_21 : decode cX7_from 21 = .ok (.bipush (-101), 2) := by decide +kernel
theorem dX7_from_23 : decode cX7_from 23 = .ok (.ireturn, 1) := by decide +kernel
theorem dX7_from_24 : decode cX7_from 24 = .ok (.iconst 0, 1) := by decide +kernel
theorem dX7_from_25 : decode cX7_from 25 = .ok (.istore_n 3, 1) := by decide +kernel
theorem dX7_from_26 : decode cX7_from 26 = .ok (.iconst 0, 1) := by decide +kernel
theorem dX7_from_27 : decode cX7_from 27 = .ok (.istore 4, 2) := by decide +kernel
theorem dX7_from_29 : decode cX7_from 29 = .ok (.iload 4, 2) := by decide +kernel
theorem dX7_from_31 : decode cX7_from 31 = .ok (.aload_n 0, 1) := by decide +kernel
theorem dX7_from_32 : decode cX7_from 32 = .ok (.getfield 10, 3) := by decide +kernel
theorem dX7_from_35 : decode cX7_from 35 = .ok (.getfield 202, 3) := by decide +kernel
theorem dX7_from_38 : decode cX7_from 38 = .ok (.if_icmp .ge 50, 3) := by decide +kernel
theorem dX7_from_41 : decode cX7_from 41 = .ok (.aload_n 0, 1) := by decide +kernel
theorem dX7_from_42 : decode cX7_from 42 = .ok (.getfield 21, 3) := by decide +kernel
theorem dX7_from_45 : decode cX7_from 45 = .ok (.iload 4, 2) := by decide +kernel
theorem dX7_from_47 : decode cX7_from 47 = .ok (.iconst (-1), 1) := by decide +kernel
theorem dX7_from_48 : decode cX7_from 48 = .ok (.invokevirtual 126, 3) := by decide +kernel
theorem dX7_from_51 : decode cX7_from 51 = .ok (.iload_n 1, 1) := by decide +kernel
theorem dX7_from_52 : decode cX7_from 52 = .ok (.if_icmp .ne 30, 3) := by decide +kernel
theorem dX7_from_55 : decode cX7_from 55 = .ok (.aload_n 0, 1) := by decide +kernel
theorem dX7_from_56 : decode cX7_from 56 = .ok (.getfield 21, 3) := by decide +kernel
theorem dX7_from_59 : decode cX7_from 59 = .ok (.iload 4, 2) := by decide +kernel
theorem dX7_from_61 : decode cX7_from 61 = .ok (.iload_n 1, 1) := by decide +kernel
theorem dX7_from_62 : decode cX7_from 62 = .ok (.invokevirtual 126, 3) := by decide +kernel
theorem dX7_from_65 : decode cX7_from 65 = .ok (.iload_n 2, 1) := by decide +kernel
theorem dX7_from_66 : decode cX7_from 66 = .ok (.if_icmp .ne 16, 3) := by decide +kernel
theorem dX7_from_69 : decode cX7_from 69 = .ok (.iload_n 3, 1) := by decide +kernel
theorem dX7_from_70 : decode cX7_from 70 = .ok (.aload_n 0, 1) := by decide +kernel
theorem dX7_from_71 : decode cX7_from 71 = .ok (.getfield 10, 3) := by decide +kernel
theorem dX7_from_74 : decode cX7_from 74 = .ok (.getfield 205, 3) := by decide +kernel
theorem dX7_from_77 : decode cX7_from 77 = .ok (.iload 4, 2) := by decide +kernel
theorem dX7_from_79 : decode cX7_from 79 = .ok (.iaload, 1) := by decide +kernel
theorem dX7_from_80 : decode cX7_from 80 = .ok (.iadd, 1) := by decide +kernel
theorem dX7_from_81 : decode cX7_from 81 = .ok (.istore_n 3, 1) := by decide +kernel
theorem dX7_from_82 : decode cX7_from 82 = .ok (.iinc 4 1, 3) := by decide +kernel
theorem dX7_from_85 : decode cX7_from 85 = .ok (.goto (-56), 3) := by decide +kernel
theorem dX7_from_88 : decode cX7_from 88 = .ok (.iload_n 3, 1) := by decide +kernel
theorem dX7_from_89 : decode cX7_from 89 = .ok (.ireturn, 1) := by decide +kernel
theorem dX7_areNotTwo_0 : decode cX7_areNotTwo 0 = .ok (.aload_n 0, 1) := by decide +kernel
theorem dX7_areNotTwo_1 : decode cX7_areNotTwo 1 = .ok (.iload_n 1, 1) := by decide +kernel
theorem dX7_areNotTwo_2 : decode cX7_areNotTwo 2 = .ok (.invokevirtual 80, 3) := by decide +kernel
theorem dX7_areNotTwo_5 : decode cX7_areNotTwo 5 = .ok (.ifCond .ne 16, 3) := by decide +kernel
theorem dX7_areNotTwo_8 : decode cX7_areNotTwo 8 = .ok (.aload_n 0, 1) := by decide +kernel
theorem dX7_areNotTwo_9 : decode cX7_areNotTwo 9 = .ok (.iload_n 2, 1) := by decide +kernel
theorem dX7_areNotTwo_10 : decode cX7_areNotTwo 10 = .ok (.invokevirtual 80, 3) := by decide +kernel
theorem dX7_areNotTwo_13 : decode cX7_areNotTwo 13 = .ok (.ifCond .ne 8, 3) := by decide +kernel
theorem dX7_areNotTwo_16 : decode cX7_areNotTwo 16 = .ok (.iload_n 1, 1) := by decide +kernel
theorem dX7_areNotTwo_17 : decode cX7_areNotTwo 17 = .ok (.iload_n 2, 1) := by decide +kernel
theorem dX7_areNotTwo_18 : decode cX7_areNotTwo 18 = .ok (.if_icmp .ne 7, 3) := by decide +kernel
theorem dX7_areNotTwo_21 : decode cX7_areNotTwo 21 = .ok (.iconst 1, 1) := by decide +kernel
theorem dX7_areNotTwo_22 : decode cX7_areNotTwo 22 = .ok (.goto 4, 3) := by decide +kernel
theorem dX7_areNotTwo_25 : decode cX7_areNotTwo 25 = .ok (.iconst 0, 1) := by decide +kernel
theorem dX7_areNotTwo_26 : decode cX7_areNotTwo 26 = .ok (.ireturn, 1) := by decide +kernel
theorem dX7_areTooMany_0 : decode cX7_areTooMany 0 = .ok (.aload_n 0, 1) := by decide +kernel
theorem dX7_areTooMany_1 : decode cX7_areTooMany 1 = .ok (.getfield 21, 3) := by decide +kernel
theorem dX7_areTooMany_4 : decode cX7_areTooMany 4 = .ok (.iload_n 1, 1) := by decide +kernel
theorem dX7_areTooMany_5 : decode cX7_areTooMany 5 = .ok (.invokevirtual 88, 3) := by decide +kernel
theorem dX7_areTooMany_8 : decode cX7_areTooMany 8 = .ok (.aload_n 0, 1) := by decide +kernel
theorem dX7_areTooMany_9 : decode cX7_areTooMany 9 = .ok (.getfield 21, 3) := by decide +kernel
theorem dX7_areTooMany_12 : decode cX7_areTooMany 12 = .ok (.iload_n 2, 1) := by decide +kernel
theorem dX7_areTooMany_13 : decode cX7_areTooMany 13 = .ok (.invokevirtual 88, 3) := by decide +kernel
theorem dX7_areTooMany_16 : decode cX7_areTooMany 16 = .ok (.iadd, 1) := by decide +kernel
theorem dX7_areTooMany_17 : decode cX7_areTooMany 17 = .ok (.iconst 3, 1) := by decide +kernel
theorem dX7_areTooMany_18 : decode cX7_areTooMany 18 = .ok (.if_icmp .le 7, 3) := by decide +kernel
theorem dX7_areTooMany_21 : decode cX7_areTooMany 21 = .ok (.iconst 1, 1) := by decide +kernel
theorem dX7_areTooMany_22 : decode cX7_areTooMany 22 = .ok (.goto 4, 3) := by decide +kernel
theorem dX7_areTooMany_25 : decode cX7_areTooMany 25 = .ok (.iconst 0, 1) := by decide +kernel
theorem dX7_areTooMany_26 : decode cX7_areTooMany 26 = .ok (.ireturn, 1) := by decide +kernel
theorem dX7_merge_0 : decode cX7_merge 0 = .ok (.aload_n 0, 1) := by decide +kernel
theorem dX7_merge_1 : decode cX7_merge 1 = .ok (.iload_n 1, 1) := by decide +kernel
theorem dX7_merge_2 : decode cX7_merge 2 = .ok (.iload_n 2, 1) := by decide +kernel
theorem dX7_merge_3 : decode cX7_merge 3 = .ok (.invokevirtual 208, 3) := by decide +kernel
theorem dX7_merge_6 : decode cX7_merge 6 = .ok (.ifCond .eq 6, 3) := by decide +kernel
theorem dX7_merge_9 : decode cX7_merge 9 = .ok (.bipush (-101), 2) := by decide +kernel
theorem dX7_merge_11 : decode cX7_merge 11 = .ok (.ireturn, 1) := by decide +kernel
theorem dX7_merge_12 : decode cX7_merge 12 = .ok (.aload_n 0, 1) := by decide +kernel
theorem dX7_merge_13 : decode cX7_merge 13 = .ok (.iload_n 1, 1) := by decide +kernel
theorem dX7_merge_14 : decode cX7_merge 14 = .ok (.iload_n 2, 1) := by decide +kernel
theorem dX7_merge_15 : decode cX7_merge 15 = .ok (.invokevirtual 211, 3) := by decide +kernel
theorem dX7_merge_18 : decode cX7_merge 18 = .ok (.ifCond .eq 6, 3) := by decide +kernel
theorem dX7_merge_21 : decode cX7_merge 21 = .ok (.bipush (-103), 2) := by decide +kernel
theorem dX7_merge_23 : decode cX7_merge 23 = .ok (.ireturn, 1) := by decide +kernel
theorem dX7_merge_24 : decode cX7_merge 24 = .ok (.aload_n 0, 1) := by decide +kernel
theorem dX7_merge_25 : decode cX7_merge 25 = .ok (.getfield 21, 3) := by decide +kernel
theorem dX7_merge_28 : decode cX7_merge 28 = .ok (.iload_n 2, 1) := by decide +kernel
theorem dX7_merge_29 : decode cX7_merge 29 = .ok (.iload_n 1, 1) := by decide +kernel
theorem dX7_merge_30 : decode cX7_merge 30 = .ok (.invokevirtual 214, 3) := by decide +kernel
theorem dX7_merge_33 : decode cX7_merge 33 = .ok (.aload_n 0, 1) := by decide +kernel
theorem dX7_merge_34 : decode cX7_merge 34 = .ok (.getfield 21, 3) := by decide +kernel
theorem dX7_merge_37 : decode cX7_merge 37 = .ok (.iload_n 1, 1) := by decide +kernel
theorem dX7_merge_38 : decode cX7_merge 38 = .ok (.invokevirtual 88, 3) := by decide +kernel
theorem dX7_merge_41 : decode cX7_merge 41 = .ok (.ireturn, 1) := by decide +kernel
theorem dX7_dearer_0 : decode cX7_dearer 0 = .ok (.aload_n 0, 1) := by decide +kernel
theorem dX7_dearer_1 : decode cX7_dearer 1 = .ok (.iload_n 1, 1) := by decide +kernel
theorem dX7_dearer_2 : decode cX7_dearer 2 = .ok (.iload_n 2, 1) := by decide +kernel
theorem dX7_dearer_3 : decode cX7_dearer 3 = .ok (.invokevirtual 208, 3) := by decide +kernel
theorem dX7_dearer_6 : decode cX7_dearer 6 = .ok (.ifCond .ne 11, 3) := by decide +kernel
theorem dX7_dearer_9 : decode cX7_dearer 9 = .ok (.aload_n 0, 1) := by decide +kernel
theorem dX7_dearer_10 : decode cX7_dearer 10 = .ok (.iload_n 3, 1) := by decide +kernel
theorem dX7_dearer_11 : decode cX7_dearer 11 = .ok (.invokevirtual 120, 3) := by decide +kernel
theorem dX7_dearer_14 : decode cX7_dearer 14 = .ok (.ifCond .eq 7, 3) := by decide +kernel
theorem dX7_dearer_17 : decode cX7_dearer 17 = .ok (.sipush (-1001), 3) := by decide +kernel
theorem dX7_dearer_20 : decode cX7_dearer 20 = .ok (.ireturn, 1) := by decide +kernel
theorem dX7_dearer_21 : decode cX7_dearer 21 = .ok (.aload_n 0, 1) := by decide +kernel
theorem dX7_dearer_22 : decode cX7_dearer 22 = .ok (.iload_n 1, 1) := by decide +kernel
theorem dX7_dearer_23 : decode cX7_dearer 23 = .ok (.iload_n 2, 1) := by decide +kernel
theorem dX7_dearer_24 : decode cX7_dearer 24 = .ok (.invokevirtual 211, 3) := by decide +kernel
theorem dX7_dearer_27 : decode cX7_dearer 27 = .ok (.ifCond .ne 34, 3) := by decide +kernel
theorem dX7_dearer_30 : decode cX7_dearer 30 = .ok (.aload_n 0, 1) := by decide +kernel
theorem dX7_dearer_31 : decode cX7_dearer 31 = .ok (.getfield 43, 3) := by decide +kernel
theorem dX7_dearer_34 : decode cX7_dearer 34 = .ok (.aload_n 0, 1) := by decide +kernel
theorem dX7_dearer_35 : decode cX7_dearer 35 = .ok (.getfield 21, 3) := by decide +kernel
theorem dX7_dearer_38 : decode cX7_dearer 38 = .ok (.invokevirtual 218, 3) := by decide +kernel
theorem dX7_dearer_41 : decode cX7_dearer 41 = .ok (.ifCond .eq 20, 3) := by decide +kernel
theorem dX7_dearer_44 : decode cX7_dearer 44 = .ok (.aload_n 0, 1) := by decide +kernel
theorem dX7_dearer_45 : decode cX7_dearer 45 = .ok (.getfield 43, 3) := by decide +kernel
theorem dX7_dearer_48 : decode cX7_dearer 48 = .ok (.aload_n 0, 1) := by decide +kernel
theorem dX7_dearer_49 : decode cX7_dearer 49 = .ok (.getfield 21, 3) := by decide +kernel
theorem dX7_dearer_52 : decode cX7_dearer 52 = .ok (.iload_n 1, 1) := by decide +kernel
theorem dX7_dearer_53 : decode cX7_dearer 53 = .ok (.iload_n 2, 1) := by decide +kernel
theorem dX7_dearer_54 : decode cX7_dearer 54 = .ok (.invokevirtual 222, 3) := by decide +kernel
theorem dX7_dearer_57 : decode cX7_dearer 57 = .ok (.iconst (-1), 1) := by decide +kernel
theorem dX7_dearer_58 : decode cX7_dearer 58 = .ok (.if_icmp .ne 7, 3) := by decide +kernel
theorem dX7_dearer_61 : decode cX7_dearer 61 = .ok (.sipush (-1002), 3) := by decide +kernel
theorem dX7_dearer_64 : decode cX7_dearer 64 = .ok (.ireturn, 1) := by decide +kernel
theorem dX7_dearer_65 : decode cX7_dearer 65 = .ok (.aload_n 0, 1) := by decide +kernel
theorem dX7_dearer_66 : decode cX7_dearer 66 = .ok (.getfield 43, 3) := by decide +kernel
theorem dX7_dearer_69 : decode cX7_dearer 69 = .ok (.iload_n 3, 1) := by decide +kernel
theorem dX7_dearer_70 : decode cX7_dearer 70 = .ok (.invokevirtual 226, 3) := by decide +kernel
theorem dX7_dearer_73 : decode cX7_dearer 73 = .ok (.ireturn, 1) := by decide +kernel
theorem dX7_harm_0 : decode cX7_harm 0 = .ok (.aload_n 0, 1) := by decide +kernel
theorem dX7_harm_1 : decode cX7_harm 1 = .ok (.iload_n 1, 1) := by decide +kernel
theorem dX7_harm_2 : decode cX7_harm 2 = .ok (.iload_n 2, 1) := by decide +kernel
theorem dX7_harm_3 : decode cX7_harm 3 = .ok (.invokevirtual 208, 3) := by decide +kernel
theorem dX7_harm_6 : decode cX7_harm 6 = .ok (.ifCond .eq 6, 3) := by decide +kernel
theorem dX7_harm_9 : decode cX7_harm 9 = .ok (.bipush (-101), 2) := by decide +kernel
theorem dX7_harm_11 : decode cX7_harm 11 = .ok (.ireturn, 1) := by decide +kernel
theorem dX7_harm_12 : decode cX7_harm 12 = .ok (.iload_n 3, 1) := by decide +kernel
theorem dX7_harm_13 : decode cX7_harm 13 = .ok (.iconst 0, 1) := by decide +kernel
theorem dX7_harm_14 : decode cX7_harm 14 = .ok (.iconst 2, 1) := by decide +kernel
theorem dX7_harm_15 : decode cX7_harm 15 = .ok (.invokestatic 72, 3) := by decide +kernel
theorem dX7_harm_18 : decode cX7_harm 18 = .ok (.ifCond .eq 6, 3) := by decide +kernel
theorem dX7_harm_21 : decode cX7_harm 21 = .ok (.bipush (-102), 2) := by decide +kernel
theorem dX7_harm_23 : decode cX7_harm 23 = .ok (.ireturn, 1) := by decide +kernel
theorem dX7_harm_24 : decode cX7_harm 24 = .ok (.aload_n 0, 1) := by decide +kernel
theorem dX7_harm_25 : decode cX7_harm 25 = .ok (.iload_n 1, 1) := by decide +kernel
theorem dX7_harm_26 : decode cX7_harm 26 = .ok (.iload_n 2, 1) := by decide +kernel
theorem dX7_harm_27 : decode cX7_harm 27 = .ok (.invokevirtual 211, 3) := by decide +kernel
theorem dX7_harm_30 : decode cX7_harm 30 = .ok (.ifCond .eq 6, 3) := by decide +kernel
theorem dX7_harm_33 : decode cX7_harm 33 = .ok (.bipush (-103), 2) := by decide +kernel
theorem dX7_harm_35 : decode cX7_harm 35 = .ok (.ireturn, 1) := by decide +kernel
theorem dX7_harm_36 : decode cX7_harm 36 = .ok (.aload_n 0, 1) := by decide +kernel
theorem dX7_harm_37 : decode cX7_harm 37 = .ok (.getfield 43, 3) := by decide +kernel
theorem dX7_harm_40 : decode cX7_harm 40 = .ok (.aload_n 0, 1) := by decide +kernel
theorem dX7_harm_41 : decode cX7_harm 41 = .ok (.getfield 21, 3) := by decide +kernel
theorem dX7_harm_44 : decode cX7_harm 44 = .ok (.invokevirtual 218, 3) := by decide +kernel
theorem dX7_harm_47 : decode cX7_harm 47 = .ok (.ifCond .ne 5, 3) := by decide +kernel
theorem dX7_harm_50 : decode cX7_harm 50 = .ok (.iconst (-1), 1) := by decide +kernel
theorem dX7_harm_51 : decode cX7_harm 51 = .ok (.ireturn, 1) := by decide +kernel
theorem dX7_harm_52 : decode cX7_harm 52 = .ok (.aload_n 0, 1) := by decide +kernel
theorem dX7_harm_53 : decode cX7_harm 53 = .ok (.getfield 43, 3) := by decide +kernel
theorem dX7_harm_56 : decode cX7_harm 56 = .ok (.aload_n 0, 1) := by decide +kernel
theorem dX7_harm_57 : decode cX7_harm 57 = .ok (.getfield 21, 3) := by decide +kernel
theorem dX7_harm_60 : decode cX7_harm 60 = .ok (.iload_n 1, 1) := by decide +kernel
theorem dX7_harm_61 : decode cX7_harm 61 = .ok (.iload_n 2, 1) := by decide +kernel
theorem dX7_harm_62 : decode cX7_harm 62 = .ok (.invokevirtual 222, 3) := by decide +kernel
theorem dX7_harm_65 : decode cX7_harm 65 = .ok (.istore 4, 2) := by decide +kernel
theorem dX7_harm_67 : decode cX7_harm 67 = .ok (.iload 4, 2) := by decide +kernel
theorem dX7_harm_69 : decode cX7_harm 69 = .ok (.iconst (-1), 1) := by decide +kernel
theorem dX7_harm_70 : decode cX7_harm 70 = .ok (.if_icmp .eq 8, 3) := by decide +kernel
theorem dX7_harm_73 : decode cX7_harm 73 = .ok (.iload_n 3, 1) := by decide +kernel
theorem dX7_harm_74 : decode cX7_harm 74 = .ok (.iconst 2, 1) := by decide +kernel
theorem dX7_harm_75 : decode cX7_harm 75 = .ok (.if_icmp .ne 6, 3) := by decide +kernel
theorem dX7_harm_78 : decode cX7_harm 78 = .ok (.iload 4, 2) := by decide +kernel
theorem dX7_harm_80 : decode cX7_harm 80 = .ok (.ireturn, 1) := by decide +kernel
theorem dX7_harm_81 : decode cX7_harm 81 = .ok (.iload_n 3, 1) := by decide +kernel
theorem dX7_harm_82 : decode cX7_harm 82 = .ok (.ifCond .ne 13, 3) := by decide +kernel
theorem dX7_harm_85 : decode cX7_harm 85 = .ok (.aload_n 0, 1) := by decide +kernel
theorem dX7_harm_86 : decode cX7_harm 86 = .ok (.getfield 43, 3) := by decide +kernel
theorem dX7_harm_89 : decode cX7_harm 89 = .ok (.invokevirtual 229, 3) := by decide +kernel
theorem dX7_harm_92 : decode cX7_harm 92 = .ok (.goto 10, 3) := by decide +kernel
theorem dX7_harm_95 : decode cX7_harm 95 = .ok (.aload_n 0, 1) := by decide +kernel
theorem dX7_harm_96 : decode cX7_harm 96 = .ok (.getfield 43, 3) := by decide +kernel
theorem dX7_harm_99 : decode cX7_harm 99 = .ok (.invokevirtual 232, 3) := by decide +kernel
theorem dX7_harm_102 : decode cX7_harm 102 = .ok (.ireturn, 1) := by decide +kernel
theorem dX7_soldOff_0 : decode cX7_soldOff 0 = .ok (.aload_n 0, 1) := by decide +kernel
theorem dX7_soldOff_1 : decode cX7_soldOff 1 = .ok (.iload_n 1, 1) := by decide +kernel
theorem dX7_soldOff_2 : decode cX7_soldOff 2 = .ok (.iload_n 2, 1) := by decide +kernel
theorem dX7_soldOff_3 : decode cX7_soldOff 3 = .ok (.invokevirtual 208, 3) := by decide +kernel
theorem dX7_soldOff_6 : decode cX7_soldOff 6 = .ok (.ifCond .ne 21, 3) := by decide +kernel
theorem dX7_soldOff_9 : decode cX7_soldOff 9 = .ok (.aload_n 0, 1) := by decide +kernel
theorem dX7_soldOff_10 : decode cX7_soldOff 10 = .ok (.iload_n 1, 1) := by decide +kernel
theorem dX7_soldOff_11 : decode cX7_soldOff 11 = .ok (.iload_n 3, 1) := by decide +kernel
theorem dX7_soldOff_12 : decode cX7_soldOff 12 = .ok (.invokevirtual 208, 3) := by decide +kernel
theorem dX7_soldOff_15 : decode cX7_soldOff 15 = .ok (.ifCond .ne 12, 3) := by decide +kernel
theorem dX7_soldOff_18 : decode cX7_soldOff 18 = .ok (.aload_n 0, 1) := by decide +kernel
theorem dX7_soldOff_19 : decode cX7_soldOff 19 = .ok (.iload_n 2, 1) := by decide +kernel
theorem dX7_soldOff_20 : decode cX7_soldOff 20 = .ok (.iload_n 3, 1) := by decide +kernel
theorem dX7_soldOff_21 : decode cX7_soldOff 21 = .ok (.invokevirtual 208, 3) := by decide +kernel
theorem dX7_soldOff_24 : decode cX7_soldOff 24 = .ok (.ifCond .eq 6, 3) := by decide +kernel
theorem dX7_soldOff_27 : decode cX7_soldOff 27 = .ok (.bipush (-101), 2) := by decide +kernel
theorem dX7_soldOff_29 : decode cX7_soldOff 29 = .ok (.ireturn, 1) := by decide +kernel
theorem dX7_soldOff_30 : decode cX7_soldOff 30 = .ok (.iload 4, 2) := by decide +kernel
theorem dX7_soldOff_32 : decode cX7_soldOff 32 = .ok (.iconst 0, 1) := by decide +kernel
theorem dX7_soldOff_33 : decode cX7_soldOff 33 = .ok (.bipush 9, 2) := by decide +kernel
theorem dX7_soldOff_35 : decode cX7_soldOff 35 = .ok (.invokestatic 72, 3) := by decide +kernel
theorem dX7_soldOff_38 : decode cX7_soldOff 38 = .ok (.ifCond .eq 6, 3) := by decide +kernel
theorem dX7_soldOff_41 : decode cX7_soldOff 41 = .ok (.bipush (-102), 2) := by decide +kernel
theorem dX7_soldOff_43 : decode cX7_soldOff 43 = .ok (.ireturn, 1) := by decide +kernel
theorem dX7_soldOff_44 : decode cX7_soldOff 44 = .ok (.aload_n 0, 1) := by decide +kernel
theorem dX7_soldOff_45 : decode cX7_soldOff 45 = .ok (.iload_n 1, 1) := by decide +kernel
theorem dX7_soldOff_46 : decode cX7_soldOff 46 = .ok (.iload_n 2, 1) := by decide +kernel
theorem dX7_soldOff_47 : decode cX7_soldOff 47 = .ok (.invokevirtual 211, 3) := by decide +kernel
theorem dX7_soldOff_50 : decode cX7_soldOff 50 = .ok (.ifCond .eq 6, 3) := by decide +kernel
theorem dX7_soldOff_53 : decode cX7_soldOff 53 = .ok (.bipush (-103), 2) := by decide +kernel
theorem dX7_soldOff_55 : decode cX7_soldOff 55 = .ok (.ireturn, 1) := by decide +kernel
theorem dX7_soldOff_56 : decode cX7_soldOff 56 = .ok (.aload_n 0, 1) := by decide +kernel
theorem dX7_soldOff_57 : decode cX7_soldOff 57 = .ok (.getfield 43, 3) := by decide +kernel
theorem dX7_soldOff_60 : decode cX7_soldOff 60 = .ok (.aload_n 0, 1) := by decide +kernel
theorem dX7_soldOff_61 : decode cX7_soldOff 61 = .ok (.getfield 21, 3) := by decide +kernel
theorem dX7_soldOff_64 : decode cX7_soldOff 64 = .ok (.invokevirtual 218, 3) := by decide +kernel
theorem dX7_soldOff_67 : decode cX7_soldOff 67 = .ok (.ifCond .ne 5, 3) := by decide +kernel
theorem dX7_soldOff_70 : decode cX7_soldOff 70 = .ok (.iconst (-1), 1) := by decide +kernel
theorem dX7_soldOff_71 : decode cX7_soldOff 71 = .ok (.ireturn, 1) := by decide +kernel
theorem dX7_soldOff_72 : decode cX7_soldOff 72 = .ok (.aload_n 0, 1) := by decide +kernel
theorem dX7_soldOff_73 : decode cX7_soldOff 73 = .ok (.getfield 21, 3) := by decide +kernel
theorem dX7_soldOff_76 : decode cX7_soldOff 76 = .ok (.iload_n 1, 1) := by decide +kernel
theorem dX7_soldOff_77 : decode cX7_soldOff 77 = .ok (.invokevirtual 235, 3) := by decide +kernel
theorem dX7_soldOff_80 : decode cX7_soldOff 80 = .ok (.aload_n 0, 1) := by decide +kernel
theorem dX7_soldOff_81 : decode cX7_soldOff 81 = .ok (.getfield 21, 3) := by decide +kernel
theorem dX7_soldOff_84 : decode cX7_soldOff 84 = .ok (.iload_n 2, 1) := by decide +kernel
theorem dX7_soldOff_85 : decode cX7_soldOff 85 = .ok (.invokevirtual 235, 3) := by decide +kernel
theorem dX7_soldOff_88 : decode cX7_soldOff 88 = .ok (.ior, 1) := by decide +kernel
theorem dX7_soldOff_89 : decode cX7_soldOff 89 = .ok (.istore 5, 2) := by decide +kernel
theorem dX7_soldOff_91 : decode cX7_soldOff 91 = .ok (.iconst 3, 1) := by decide +kernel
theorem dX7_soldOff_92 : decode cX7_soldOff 92 = .ok (.aload_n 0, 1) := by decide +kernel
theorem dX7_soldOff_93 : decode cX7_soldOff 93 = .ok (.getfield 21, 3) := by decide +kernel
theorem dX7_soldOff_96 : decode cX7_soldOff 96 = .ok (.iload_n 3, 1) := by decide +kernel
theorem dX7_soldOff_97 : decode cX7_soldOff 97 = .ok (.invokevirtual 88, 3) := by decide +kernel
theorem dX7_soldOff_100 : decode cX7_soldOff 100 = .ok (.isub, 1) := by decide +kernel
theorem dX7_soldOff_101 : decode cX7_soldOff 101 = .ok (.istore 6, 2) := by decide +kernel
theorem dX7_soldOff_103 : decode cX7_soldOff 103 = .ok (.iconst 0, 1) := by decide +kernel
theorem dX7_soldOff_104 : decode cX7_soldOff 104 = .ok (.istore 7, 2) := by decide +kernel
theorem dX7_soldOff_106 : decode cX7_soldOff 106 = .ok (.iload 7, 2) := by decide +kernel
theorem dX7_soldOff_108 : decode cX7_soldOff 108 = .ok (.iload 6, 2) := by decide +kernel
theorem dX7_soldOff_110 : decode cX7_soldOff 110 = .ok (.if_icmp .gt 81, 3) := by decide +kernel
theorem dX7_soldOff_113 : decode cX7_soldOff 113 = .ok (.iconst 0, 1) := by decide +kernel
theorem dX7_soldOff_114 : decode cX7_soldOff 114 = .ok (.istore 8, 2) := by decide +kernel
theorem dX7_soldOff_116 : decode cX7_soldOff 116 = .ok (.iload 8, 2) := by decide +kernel
theorem dX7_soldOff_118 : decode cX7_soldOff 118 = .ok (.iload 5, 2) := by decide +kernel
theorem dX7_soldOff_120 : decode cX7_soldOff 120 = .ok (.if_icmp .gt 65, 3) := by decide +kernel
theorem dX7_soldOff_123 : decode cX7_soldOff 123 = .ok (.iload 8, 2) := by decide +kernel
theorem dX7_soldOff_125 : decode cX7_soldOff 125 = .ok (.invokestatic 189, 3) := by decide +kernel
theorem dX7_soldOff_128 : decode cX7_soldOff 128 = .ok (.iload 7, 2) := by decide +kernel
theorem dX7_soldOff_130 : decode cX7_soldOff 130 = .ok (.if_icmp .ne 17, 3) := by decide +kernel
theorem dX7_soldOff_133 : decode cX7_soldOff 133 = .ok (.iload 8, 2) := by decide +kernel
theorem dX7_soldOff_135 : decode cX7_soldOff 135 = .ok (.iload 5, 2) := by decide +kernel
theorem dX7_soldOff_137 : decode cX7_soldOff 137 = .ok (.iconst (-1), 1) := by decide +kernel
theorem dX7_soldOff_138 : decode cX7_soldOff 138 = .ok (.ixor, 1) := by decide +kernel
theorem dX7_soldOff_139 : decode cX7_soldOff 139 = .ok (.iand, 1) := by decide +kernel
theorem dX7_soldOff_140 : decode cX7_soldOff 140 = .ok (.ifCond .ne 7, 3) := by decide +kernel
theorem dX7_soldOff_143 : decode cX7_soldOff 143 = .ok (.iconst 1, 1) := by decide +kernel
theorem dX7_soldOff_144 : decode cX7_soldOff 144 = .ok (.goto 4, 3) := by decide +kernel
theorem dX7_soldOff_147 : decode cX7_soldOff 147 = .ok (.iconst 0, 1) := by decide +kernel
theorem dX7_soldOff_148 : decode cX7_soldOff 148 = .ok (.istore 9, 2) := by decide +kernel
theorem dX7_soldOff_150 : decode cX7_soldOff 150 = .ok (.iload 9, 2) := by decide +kernel
theorem dX7_soldOff_152 : decode cX7_soldOff 152 = .ok (.ifCond .eq 27, 3) := by decide +kernel
theorem dX7_soldOff_155 : decode cX7_soldOff 155 = .ok (.aload_n 0, 1) := by decide +kernel
theorem dX7_soldOff_156 : decode cX7_soldOff 156 = .ok (.getfield 43, 3) := by decide +kernel
theorem dX7_soldOff_159 : decode cX7_soldOff 159 = .ok (.aload_n 0, 1) := by decide +kernel
theorem dX7_soldOff_160 : decode cX7_soldOff 160 = .ok (.getfield 21, 3) := by decide +kernel
theorem dX7_soldOff_163 : decode cX7_soldOff 163 = .ok (.iload_n 1, 1) := by decide +kernel
theorem dX7_soldOff_164 : decode cX7_soldOff 164 = .ok (.iload_n 2, 1) := by decide +kernel
theorem dX7_soldOff_165 : decode cX7_soldOff 165 = .ok (.iload_n 3, 1) := by decide +kernel
theorem dX7_soldOff_166 : decode cX7_soldOff 166 = .ok (.iload 8, 2) := by decide +kernel
theorem dX7_soldOff_168 : decode cX7_soldOff 168 = .ok (.invokevirtual 238, 3) := by decide +kernel
theorem dX7_soldOff_171 : decode cX7_soldOff 171 = .ok (.iload 4, 2) := by decide +kernel
theorem dX7_soldOff_173 : decode cX7_soldOff 173 = .ok (.if_icmp .gt 6, 3) := by decide +kernel
theorem dX7_soldOff_176 : decode cX7_soldOff 176 = .ok (.iload 8, 2) := by decide +kernel
theorem dX7_soldOff_178 : decode cX7_soldOff 178 = .ok (.ireturn, 1) := by decide +kernel
theorem dX7_soldOff_179 : decode cX7_soldOff 179 = .ok (.iinc 8 1, 3) := by decide +kernel
theorem dX7_soldOff_182 : decode cX7_soldOff 182 = .ok (.goto (-66), 3) := by decide +kernel
theorem dX7_soldOff_185 : decode cX7_soldOff 185 = .ok (.iinc 7 1, 3) := by decide +kernel
theorem dX7_soldOff_188 : decode cX7_soldOff 188 = .ok (.goto (-82), 3) := by decide +kernel
theorem dX7_soldOff_191 : decode cX7_soldOff 191 = .ok (.iconst (-1), 1) := by decide +kernel
theorem dX7_soldOff_192 : decode cX7_soldOff 192 = .ok (.ireturn, 1) := by decide +kernel
theorem dX7_twice_0 : decode cX7_twice 0 = .ok (.aload_n 0, 1) := by decide +kernel
theorem dX7_twice_1 : decode cX7_twice 1 = .ok (.iload_n 1, 1) := by decide +kernel
theorem dX7_twice_2 : decode cX7_twice 2 = .ok (.iload_n 2, 1) := by decide +kernel
theorem dX7_twice_3 : decode cX7_twice 3 = .ok (.invokevirtual 208, 3) := by decide +kernel
theorem dX7_twice_6 : decode cX7_twice 6 = .ok (.ifCond .ne 51, 3) := by decide +kernel
theorem dX7_twice_9 : decode cX7_twice 9 = .ok (.aload_n 0, 1) := by decide +kernel
theorem dX7_twice_10 : decode cX7_twice 10 = .ok (.iload_n 3, 1) := by decide +kernel
theorem dX7_twice_11 : decode cX7_twice 11 = .ok (.iload 4, 2) := by decide +kernel
theorem dX7_twice_13 : decode cX7_twice 13 = .ok (.invokevirtual 208, 3) := by decide +kernel
theorem dX7_twice_16 : decode cX7_twice 16 = .ok (.ifCond .ne 41, 3) := by decide +kernel
theorem dX7_twice_19 : decode cX7_twice 19 = .ok (.aload_n 0, 1) := by decide +kernel
theorem dX7_twice_20 : decode cX7_twice 20 = .ok (.iload_n 1, 1) := by decide +kernel
theorem dX7_twice_21 : decode cX7_twice 21 = .ok (.iload_n 3, 1) := by decide +kernel
theorem dX7_twice_22 : decode cX7_twice 22 = .ok (.invokevirtual 208, 3) := by decide +kernel
theorem dX7_twice_25 : decode cX7_twice 25 = .ok (.ifCond .ne 32, 3) := by decide +kernel
theorem dX7_twice_28 : decode cX7_twice 28 = .ok (.aload_n 0, 1) := by decide +kernel
theorem dX7_twice_29 : decode cX7_twice 29 = .ok (.iload_n 1, 1) := by decide +kernel
theorem dX7_twice_30 : decode cX7_twice 30 = .ok (.iload 4, 2) := by decide +kernel
theorem dX7_twice_32 : decode cX7_twice 32 = .ok (.invokevirtual 208, 3) := by decide +kernel
theorem dX7_twice_35 : decode cX7_twice 35 = .ok (.ifCond .ne 22, 3) := by decide +kernel
theorem dX7_twice_38 : decode cX7_twice 38 = .ok (.aload_n 0, 1) := by decide +kernel
theorem dX7_twice_39 : decode cX7_twice 39 = .ok (.iload_n 2, 1) := by decide +kernel
theorem dX7_twice_40 : decode cX7_twice 40 = .ok (.iload_n 3, 1) := by decide +kernel
theorem dX7_twice_41 : decode cX7_twice 41 = .ok (.invokevirtual 208, 3) := by decide +kernel
theorem dX7_twice_44 : decode cX7_twice 44 = .ok (.ifCond .ne 13, 3) := by decide +kernel
theorem dX7_twice_47 : decode cX7_twice 47 = .ok (.aload_n 0, 1) := by decide +kernel
theorem dX7_twice_48 : decode cX7_twice 48 = .ok (.iload_n 2, 1) := by decide +kernel
theorem dX7_twice_49 : decode cX7_twice 49 = .ok (.iload 4, 2) := by decide +kernel
theorem dX7_twice_51 : decode cX7_twice 51 = .ok (.invokevirtual 208, 3) := by decide +kernel
theorem dX7_twice_54 : decode cX7_twice 54 = .ok (.ifCond .eq 6, 3) := by decide +kernel
theorem dX7_twice_57 : decode cX7_twice 57 = .ok (.bipush (-101), 2) := by decide +kernel
theorem dX7_twice_59 : decode cX7_twice 59 = .ok (.ireturn, 1) := by decide +kernel
theorem dX7_twice_60 : decode cX7_twice 60 = .ok (.iload 5, 2) := by decide +kernel
theorem dX7_twice_62 : decode cX7_twice 62 = .ok (.iconst 0, 1) := by decide +kernel
theorem dX7_twice_63 : decode cX7_twice 63 = .ok (.iconst 2, 1) := by decide +kernel
theorem dX7_twice_64 : decode cX7_twice 64 = .ok (.invokestatic 72, 3) := by decide +kernel
theorem dX7_twice_67 : decode cX7_twice 67 = .ok (.ifCond .eq 6, 3) := by decide +kernel
theorem dX7_twice_70 : decode cX7_twice 70 = .ok (.bipush (-102), 2) := by decide +kernel
theorem dX7_twice_72 : decode cX7_twice 72 = .ok (.ireturn, 1) := by decide +kernel
theorem dX7_twice_73 : decode cX7_twice 73 = .ok (.aload_n 0, 1) := by decide +kernel
theorem dX7_twice_74 : decode cX7_twice 74 = .ok (.iload_n 1, 1) := by decide +kernel
theorem dX7_twice_75 : decode cX7_twice 75 = .ok (.iload_n 2, 1) := by decide +kernel
theorem dX7_twice_76 : decode cX7_twice 76 = .ok (.invokevirtual 211, 3) := by decide +kernel
theorem dX7_twice_79 : decode cX7_twice 79 = .ok (.ifCond .ne 13, 3) := by decide +kernel
theorem dX7_twice_82 : decode cX7_twice 82 = .ok (.aload_n 0, 1) := by decide +kernel
theorem dX7_twice_83 : decode cX7_twice 83 = .ok (.iload_n 3, 1) := by decide +kernel
theorem dX7_twice_84 : decode cX7_twice 84 = .ok (.iload 4, 2) := by decide +kernel
theorem dX7_twice_86 : decode cX7_twice 86 = .ok (.invokevirtual 211, 3) := by decide +kernel
theorem dX7_twice_89 : decode cX7_twice 89 = .ok (.ifCond .eq 6, 3) := by decide +kernel
theorem dX7_twice_92 : decode cX7_twice 92 = .ok (.bipush (-103), 2) := by decide +kernel
theorem dX7_twice_94 : decode cX7_twice 94 = .ok (.ireturn, 1) := by decide +kernel
theorem dX7_twice_95 : decode cX7_twice 95 = .ok (.aload_n 0, 1) := by decide +kernel
theorem dX7_twice_96 : decode cX7_twice 96 = .ok (.getfield 43, 3) := by decide +kernel
theorem dX7_twice_99 : decode cX7_twice 99 = .ok (.aload_n 0, 1) := by decide +kernel
theorem dX7_twice_100 : decode cX7_twice 100 = .ok (.getfield 21, 3) := by decide +kernel
theorem dX7_twice_103 : decode cX7_twice 103 = .ok (.invokevirtual 218, 3) := by decide +kernel
theorem dX7_twice_106 : decode cX7_twice 106 = .ok (.ifCond .ne 5, 3) := by decide +kernel
theorem dX7_twice_109 : decode cX7_twice 109 = .ok (.iconst (-1), 1) := by decide +kernel
theorem dX7_twice_110 : decode cX7_twice 110 = .ok (.ireturn, 1) := by decide +kernel
theorem dX7_twice_111 : decode cX7_twice 111 = .ok (.aload_n 0, 1) := by decide +kernel
theorem dX7_twice_112 : decode cX7_twice 112 = .ok (.getfield 43, 3) := by decide +kernel
theorem dX7_twice_115 : decode cX7_twice 115 = .ok (.aload_n 0, 1) := by decide +kernel
theorem dX7_twice_116 : decode cX7_twice 116 = .ok (.getfield 21, 3) := by decide +kernel
theorem dX7_twice_119 : decode cX7_twice 119 = .ok (.iload_n 1, 1) := by decide +kernel
theorem dX7_twice_120 : decode cX7_twice 120 = .ok (.iload_n 2, 1) := by decide +kernel
theorem dX7_twice_121 : decode cX7_twice 121 = .ok (.invokevirtual 242, 3) := by decide +kernel
theorem dX7_twice_124 : decode cX7_twice 124 = .ok (.istore 6, 2) := by decide +kernel
theorem dX7_twice_126 : decode cX7_twice 126 = .ok (.aload_n 0, 1) := by decide +kernel
theorem dX7_twice_127 : decode cX7_twice 127 = .ok (.getfield 43, 3) := by decide +kernel
theorem dX7_twice_130 : decode cX7_twice 130 = .ok (.aload_n 0, 1) := by decide +kernel
theorem dX7_twice_131 : decode cX7_twice 131 = .ok (.getfield 21, 3) := by decide +kernel
theorem dX7_twice_134 : decode cX7_twice 134 = .ok (.iload_n 3, 1) := by decide +kernel
theorem dX7_twice_135 : decode cX7_twice 135 = .ok (.iload 4, 2) := by decide +kernel
theorem dX7_twice_137 : decode cX7_twice 137 = .ok (.invokevirtual 242, 3) := by decide +kernel
theorem dX7_twice_140 : decode cX7_twice 140 = .ok (.istore 7, 2) := by decide +kernel
theorem dX7_twice_142 : decode cX7_twice 142 = .ok (.aload_n 0, 1) := by decide +kernel
theorem dX7_twice_143 : decode cX7_twice 143 = .ok (.getfield 25, 3) := by decide +kernel
theorem dX7_twice_146 : decode cX7_twice 146 = .ok (.aload_n 0, 1) := by decide +kernel
theorem dX7_twice_147 : decode cX7_twice 147 = .ok (.getfield 21, 3) := by decide +kernel
theorem dX7_twice_150 : decode cX7_twice 150 = .ok (.invokevirtual 151, 3) := by decide +kernel
theorem dX7_twice_153 : decode cX7_twice 153 = .ok (.aload_n 0, 1) := by decide +kernel
theorem dX7_twice_154 : decode cX7_twice 154 = .ok (.getfield 25, 3) := by decide +kernel
theorem dX7_twice_157 : decode cX7_twice 157 = .ok (.iload_n 2, 1) := by decide +kernel
theorem dX7_twice_158 : decode cX7_twice 158 = .ok (.iload_n 1, 1) := by decide +kernel
theorem dX7_twice_159 : decode cX7_twice 159 = .ok (.invokevirtual 214, 3) := by decide +kernel
theorem dX7_twice_162 : decode cX7_twice 162 = .ok (.aload_n 0, 1) := by decide +kernel
theorem dX7_twice_163 : decode cX7_twice 163 = .ok (.getfield 43, 3) := by decide +kernel
theorem dX7_twice_166 : decode cX7_twice 166 = .ok (.aload_n 0, 1) := by decide +kernel
theorem dX7_twice_167 : decode cX7_twice 167 = .ok (.getfield 25, 3) := by decide +kernel
theorem dX7_twice_170 : decode cX7_twice 170 = .ok (.iload_n 3, 1) := by decide +kernel
theorem dX7_twice_171 : decode cX7_twice 171 = .ok (.iload 4, 2) := by decide +kernel
theorem dX7_twice_173 : decode cX7_twice 173 = .ok (.invokevirtual 242, 3) := by decide +kernel
theorem dX7_twice_176 : decode cX7_twice 176 = .ok (.istore 8, 2) := by decide +kernel
theorem dX7_twice_178 : decode cX7_twice 178 = .ok (.iload 6, 2) := by decide +kernel
theorem dX7_twice_180 : decode cX7_twice 180 = .ok (.iconst (-1), 1) := by decide +kernel
theorem dX7_twice_181 : decode cX7_twice 181 = .ok (.if_icmp .eq 15, 3) := by decide +kernel
theorem dX7_twice_184 : decode cX7_twice 184 = .ok (.iload 7, 2) := by decide +kernel
theorem dX7_twice_186 : decode cX7_twice 186 = .ok (.iconst (-1), 1) := by decide +kernel
theorem dX7_twice_187 : decode cX7_twice 187 = .ok (.if_icmp .eq 9, 3) := by decide +kernel
theorem dX7_twice_190 : decode cX7_twice 190 = .ok (.iload 8, 2) := by decide +kernel
theorem dX7_twice_192 : decode cX7_twice 192 = .ok (.iconst (-1), 1) := by decide +kernel
theorem dX7_twice_193 : decode cX7_twice 193 = .ok (.if_icmp .ne 5, 3) := by decide +kernel
theorem dX7_twice_196 : decode cX7_twice 196 = .ok (.iconst (-1), 1) := by decide +kernel
theorem dX7_twice_197 : decode cX7_twice 197 = .ok (.ireturn, 1) := by decide +kernel
theorem dX7_twice_198 : decode cX7_twice 198 = .ok (.iload 5, 2) := by decide +kernel
theorem dX7_twice_200 : decode cX7_twice 200 = .ok (.ifCond .ne 8, 3) := by decide +kernel
theorem dX7_twice_203 : decode cX7_twice 203 = .ok (.iload 6, 2) := by decide +kernel
theorem dX7_twice_205 : decode cX7_twice 205 = .ok (.goto 16, 3) := by decide +kernel
theorem dX7_twice_208 : decode cX7_twice 208 = .ok (.iload 5, 2) := by decide +kernel
theorem dX7_twice_210 : decode cX7_twice 210 = .ok (.iconst 1, 1) := by decide +kernel
theorem dX7_twice_211 : decode cX7_twice 211 = .ok (.if_icmp .ne 8, 3) := by decide +kernel
theorem dX7_twice_214 : decode cX7_twice 214 = .ok (.iload 7, 2) := by decide +kernel
theorem dX7_twice_216 : decode cX7_twice 216 = .ok (.goto 5, 3) := by decide +kernel
theorem dX7_twice_219 : decode cX7_twice 219 = .ok (.iload 8, 2) := by decide +kernel
theorem dX7_twice_221 : decode cX7_twice 221 = .ok (.ireturn, 1) := by decide +kernel
theorem dX7_codeAt_0 : decode cX7_codeAt 0 = .ok (.lload_n 0, 1) := by decide +kernel
theorem dX7_codeAt_1 : decode cX7_codeAt 1 = .ok (.bipush 8, 2) := by decide +kernel
theorem dX7_codeAt_3 : decode cX7_codeAt 3 = .ok (.iload_n 2, 1) := by decide +kernel
theorem dX7_codeAt_4 : decode cX7_codeAt 4 = .ok (.imul, 1) := by decide +kernel
theorem dX7_codeAt_5 : decode cX7_codeAt 5 = .ok (.lushr, 1) := by decide +kernel
theorem dX7_codeAt_6 : decode cX7_codeAt 6 = .ok (.ldc2_w 256, 3) := by decide +kernel
theorem dX7_codeAt_9 : decode cX7_codeAt 9 = .ok (.land, 1) := by decide +kernel
theorem dX7_codeAt_10 : decode cX7_codeAt 10 = .ok (.l2i, 1) := by decide +kernel
theorem dX7_codeAt_11 : decode cX7_codeAt 11 = .ok (.ireturn, 1) := by decide +kernel
theorem dX7_letters_0 : decode cX7_letters 0 = .ok (.iconst 0, 1) := by decide +kernel
theorem dX7_letters_1 : decode cX7_letters 1 = .ok (.istore_n 3, 1) := by decide +kernel
theorem dX7_letters_2 : decode cX7_letters 2 = .ok (.iconst 0, 1) := by decide +kernel
theorem dX7_letters_3 : decode cX7_letters 3 = .ok (.istore 4, 2) := by decide +kernel
theorem dX7_letters_5 : decode cX7_letters 5 = .ok (.iconst 0, 1) := by decide +kernel
theorem dX7_letters_6 : decode cX7_letters 6 = .ok (.istore 5, 2) := by decide +kernel
theorem dX7_letters_8 : decode cX7_letters 8 = .ok (.iload 5, 2) := by decide +kernel
theorem dX7_letters_10 : decode cX7_letters 10 = .ok (.bipush 8, 2) := by decide +kernel
theorem dX7_letters_12 : decode cX7_letters 12 = .ok (.if_icmp .ge 62, 3) := by decide +kernel
theorem dX7_letters_15 : decode cX7_letters 15 = .ok (.lload_n 1, 1) := by decide +kernel
theorem dX7_letters_16 : decode cX7_letters 16 = .ok (.iload 5, 2) := by decide +kernel
theorem dX7_letters_18 : decode cX7_letters 18 = .ok (.invokestatic 245, 3) := by decide +kernel
theorem dX7_letters_21 : decode cX7_letters 21 = .ok (.istore 6, 2) := by decide +kernel
theorem dX7_letters_23 : decode cX7_letters 23 = .ok (.iload 6, 2) := by decide +kernel
theorem dX7_letters_25 : decode cX7_letters 25 = .ok (.bipush 126, 2) := by decide +kernel
theorem dX7_letters_27 : decode cX7_letters 27 = .ok (.if_icmp .gt 13, 3) := by decide +kernel
theorem dX7_letters_30 : decode cX7_letters 30 = .ok (.iload 4, 2) := by decide +kernel
theorem dX7_letters_32 : decode cX7_letters 32 = .ok (.ifCond .eq 11, 3) := by decide +kernel
theorem dX7_letters_35 : decode cX7_letters 35 = .ok (.iload 6, 2) := by decide +kernel
theorem dX7_letters_37 : decode cX7_letters 37 = .ok (.ifCond .eq 6, 3) := by decide +kernel
theorem dX7_letters_40 : decode cX7_letters 40 = .ok (.bipush (-102), 2) := by decide +kernel
theorem dX7_letters_42 : decode cX7_letters 42 = .ok (.ireturn, 1) := by decide +kernel
theorem dX7_letters_43 : decode cX7_letters 43 = .ok (.iload 6, 2) := by decide +kernel
theorem dX7_letters_45 : decode cX7_letters 45 = .ok (.ifCond .ne 7, 3) := by decide +kernel
theorem dX7_letters_48 : decode cX7_letters 48 = .ok (.iconst 1, 1) := by decide +kernel
theorem dX7_letters_49 : decode cX7_letters 49 = .ok (.goto 4, 3) := by decide +kernel
theorem dX7_letters_52 : decode cX7_letters 52 = .ok (.iconst 0, 1) := by decide +kernel
theorem dX7_letters_53 : decode cX7_letters 53 = .ok (.istore 4, 2) := by decide +kernel
theorem dX7_letters_55 : decode cX7_letters 55 = .ok (.iload_n 3, 1) := by decide +kernel
theorem dX7_letters_56 : decode cX7_letters 56 = .ok (.iload 4, 2) := by decide +kernel
theorem dX7_letters_58 : decode cX7_letters 58 = .ok (.ifCond .eq 7, 3) := by decide +kernel
theorem dX7_letters_61 : decode cX7_letters 61 = .ok (.iconst 0, 1) := by decide +kernel
theorem dX7_letters_62 : decode cX7_letters 62 = .ok (.goto 4, 3) := by decide +kernel
theorem dX7_letters_65 : decode cX7_letters 65 = .ok (.iconst 1, 1) := by decide +kernel
theorem dX7_letters_66 : decode cX7_letters 66 = .ok (.iadd, 1) := by decide +kernel
theorem dX7_letters_67 : decode cX7_letters 67 = .ok (.istore_n 3, 1) := by decide +kernel
theorem dX7_letters_68 : decode cX7_letters 68 = .ok (.iinc 5 1, 3) := by decide +kernel
theorem dX7_letters_71 : decode cX7_letters 71 = .ok (.goto (-63), 3) := by decide +kernel
theorem dX7_letters_74 : decode cX7_letters 74 = .ok (.aload_n 0, 1) := by decide +kernel
theorem dX7_letters_75 : decode cX7_letters 75 = .ok (.getfield 50, 3) := by decide +kernel
theorem dX7_letters_78 : decode cX7_letters 78 = .ok (.getfield 249, 3) := by decide +kernel
theorem dX7_letters_81 : decode cX7_letters 81 = .ok (.iload_n 3, 1) := by decide +kernel
theorem dX7_letters_82 : decode cX7_letters 82 = .ok (.iadd, 1) := by decide +kernel
theorem dX7_letters_83 : decode cX7_letters 83 = .ok (.bipush 50, 2) := by decide +kernel
theorem dX7_letters_85 : decode cX7_letters 85 = .ok (.if_icmp .le 6, 3) := by decide +kernel
theorem dX7_letters_88 : decode cX7_letters 88 = .ok (.bipush (-104), 2) := by decide +kernel
theorem dX7_letters_90 : decode cX7_letters 90 = .ok (.ireturn, 1) := by decide +kernel
theorem dX7_letters_91 : decode cX7_letters 91 = .ok (.iconst 0, 1) := by decide +kernel
theorem dX7_letters_92 : decode cX7_letters 92 = .ok (.istore 5, 2) := by decide +kernel
theorem dX7_letters_94 : decode cX7_letters 94 = .ok (.iload 5, 2) := by decide +kernel
theorem dX7_letters_96 : decode cX7_letters 96 = .ok (.iload_n 3, 1) := by decide +kernel
theorem dX7_letters_97 : decode cX7_letters 97 = .ok (.if_icmp .ge 23, 3) := by decide +kernel
theorem dX7_letters_100 : decode cX7_letters 100 = .ok (.aload_n 0, 1) := by decide +kernel
theorem dX7_letters_101 : decode cX7_letters 101 = .ok (.getfield 50, 3) := by decide +kernel
theorem dX7_letters_104 : decode cX7_letters 104 = .ok (.lload_n 1, 1) := by decide +kernel
theorem dX7_letters_105 : decode cX7_letters 105 = .ok (.iload 5, 2) := by decide +kernel
theorem dX7_letters_107 : decode cX7_letters 107 = .ok (.invokestatic 245, 3) := by decide +kernel
theorem dX7_letters_110 : decode cX7_letters 110 = .ok (.i2c, 1) := by decide +kernel
theorem dX7_letters_111 : decode cX7_letters 111 = .ok (.invokevirtual 252, 3) := by decide +kernel
theorem dX7_letters_114 : decode cX7_letters 114 = .ok (.iinc 5 1, 3) := by decide +kernel
theorem dX7_letters_117 : decode cX7_letters 117 = .ok (.goto (-23), 3) := by decide +kernel
theorem dX7_letters_120 : decode cX7_letters 120 = .ok (.aload_n 0, 1) := by decide +kernel
theorem dX7_letters_121 : decode cX7_letters 121 = .ok (.getfield 50, 3) := by decide +kernel
theorem dX7_letters_124 : decode cX7_letters 124 = .ok (.getfield 249, 3) := by decide +kernel
theorem dX7_letters_127 : decode cX7_letters 127 = .ok (.ireturn, 1) := by decide +kernel
theorem dX7_blank_0 : decode cX7_blank 0 = .ok (.aload_n 0, 1) := by decide +kernel
theorem dX7_blank_1 : decode cX7_blank 1 = .ok (.getfield 50, 3) := by decide +kernel
theorem dX7_blank_4 : decode cX7_blank 4 = .ok (.getfield 249, 3) := by decide +kernel
theorem dX7_blank_7 : decode cX7_blank 7 = .ok (.istore_n 1, 1) := by decide +kernel
theorem dX7_blank_8 : decode cX7_blank 8 = .ok (.aload_n 0, 1) := by decide +kernel
theorem dX7_blank_9 : decode cX7_blank 9 = .ok (.getfield 50, 3) := by decide +kernel
theorem dX7_blank_12 : decode cX7_blank 12 = .ok (.iconst 0, 1) := by decide +kernel
theorem dX7_blank_13 : decode cX7_blank 13 = .ok (.putfield 249, 3) := by decide +kernel
theorem dX7_blank_16 : decode cX7_blank 16 = .ok (.iload_n 1, 1) := by decide +kernel
theorem dX7_blank_17 : decode cX7_blank 17 = .ok (.ireturn, 1) := by decide +kernel
theorem dX7_fault_0 : decode cX7_fault 0 = .ok (.aload_n 0, 1) := by decide +kernel
theorem dX7_fault_1 : decode cX7_fault 1 = .ok (.getfield 61, 3) := by decide +kernel
theorem dX7_fault_4 : decode cX7_fault 4 = .ok (.aload_n 0, 1) := by decide +kernel
theorem dX7_fault_5 : decode cX7_fault 5 = .ok (.getfield 50, 3) := by decide +kernel
theorem dX7_fault_8 : decode cX7_fault 8 = .ok (.invokevirtual 258, 3) := by decide +kernel
theorem dX7_fault_11 : decode cX7_fault 11 = .ok (.ireturn, 1) := by decide +kernel
theorem dX7_test_0 : decode cX7_test 0 = .ok (.aload_n 0, 1) := by decide +kernel
theorem dX7_test_1 : decode cX7_test 1 = .ok (.getfield 61, 3) := by decide +kernel
theorem dX7_test_4 : decode cX7_test 4 = .ok (.aload_n 0, 1) := by decide +kernel
theorem dX7_test_5 : decode cX7_test 5 = .ok (.getfield 50, 3) := by decide +kernel
theorem dX7_test_8 : decode cX7_test 8 = .ok (.invokevirtual 262, 3) := by decide +kernel
theorem dX7_test_11 : decode cX7_test 11 = .ok (.ifCond .ne 6, 3) := by decide +kernel
theorem dX7_test_14 : decode cX7_test 14 = .ok (.bipush (-103), 2) := by decide +kernel
theorem dX7_test_16 : decode cX7_test 16 = .ok (.ireturn, 1) := by decide +kernel
theorem dX7_test_17 : decode cX7_test 17 = .ok (.aload_n 0, 1) := by decide +kernel
theorem dX7_test_18 : decode cX7_test 18 = .ok (.getfield 266, 3) := by decide +kernel
theorem dX7_test_21 : decode cX7_test 21 = .ok (.aload_n 0, 1) := by decide +kernel
theorem dX7_test_22 : decode cX7_test 22 = .ok (.getfield 54, 3) := by decide +kernel
theorem dX7_test_25 : decode cX7_test 25 = .ok (.arraylength, 1) := by decide +kernel
theorem dX7_test_26 : decode cX7_test 26 = .ok (.if_icmp .lt 6, 3) := by decide +kernel
theorem dX7_test_29 : decode cX7_test 29 = .ok (.bipush (-104), 2) := by decide +kernel
theorem dX7_test_31 : decode cX7_test 31 = .ok (.ireturn, 1) := by decide +kernel
theorem dX7_test_32 : decode cX7_test 32 = .ok (.aload_n 0, 1) := by decide +kernel
theorem dX7_test_33 : decode cX7_test 33 = .ok (.getfield 54, 3) := by decide +kernel
theorem dX7_test_36 : decode cX7_test 36 = .ok (.aload_n 0, 1) := by decide +kernel
theorem dX7_test_37 : decode cX7_test 37 = .ok (.getfield 266, 3) := by decide +kernel
theorem dX7_test_40 : decode cX7_test 40 = .ok (.aaload, 1) := by decide +kernel
theorem dX7_test_41 : decode cX7_test 41 = .ok (.aload_n 0, 1) := by decide +kernel
theorem dX7_test_42 : decode cX7_test 42 = .ok (.getfield 50, 3) := by decide +kernel
theorem dX7_test_45 : decode cX7_test 45 = .ok (.invokevirtual 269, 3) := by decide +kernel
theorem dX7_test_48 : decode cX7_test 48 = .ok (.aload_n 0, 1) := by decide +kernel
theorem dX7_test_49 : decode cX7_test 49 = .ok (.getfield 50, 3) := by decide +kernel
theorem dX7_test_52 : decode cX7_test 52 = .ok (.iconst 0, 1) := by decide +kernel
theorem dX7_test_53 : decode cX7_test 53 = .ok (.putfield 249, 3) := by decide +kernel
theorem dX7_test_56 : decode cX7_test 56 = .ok (.aload_n 0, 1) := by decide +kernel
theorem dX7_test_57 : decode cX7_test 57 = .ok (.dup, 1) := by decide +kernel
theorem dX7_test_58 : decode cX7_test 58 = .ok (.getfield 266, 3) := by decide +kernel
theorem dX7_test_61 : decode cX7_test 61 = .ok (.iconst 1, 1) := by decide +kernel
theorem dX7_test_62 : decode cX7_test 62 = .ok (.iadd, 1) := by decide +kernel
theorem dX7_test_63 : decode cX7_test 63 = .ok (.putfield 266, 3) := by decide +kernel
theorem dX7_test_66 : decode cX7_test 66 = .ok (.aload_n 0, 1) := by decide +kernel
theorem dX7_test_67 : decode cX7_test 67 = .ok (.getfield 266, 3) := by decide +kernel
theorem dX7_test_70 : decode cX7_test 70 = .ok (.iconst 1, 1) := by decide +kernel
theorem dX7_test_71 : decode cX7_test 71 = .ok (.isub, 1) := by decide +kernel
theorem dX7_test_72 : decode cX7_test 72 = .ok (.ireturn, 1) := by decide +kernel
theorem dX7_isNoTest_0 : decode cX7_isNoTest 0 = .ok (.iload_n 1, 1) := by decide +kernel
theorem dX7_isNoTest_1 : decode cX7_isNoTest 1 = .ok (.iconst 0, 1) := by decide +kernel
theorem dX7_isNoTest_2 : decode cX7_isNoTest 2 = .ok (.aload_n 0, 1) := by decide +kernel
theorem dX7_isNoTest_3 : decode cX7_isNoTest 3 = .ok (.getfield 266, 3) := by decide +kernel
theorem dX7_isNoTest_6 : decode cX7_isNoTest 6 = .ok (.iconst 1, 1) := by decide +kernel
theorem dX7_isNoTest_7 : decode cX7_isNoTest 7 = .ok (.isub, 1) := by decide +kernel
theorem dX7_isNoTest_8 : decode cX7_isNoTest 8 = .ok (.invokestatic 72, 3) := by decide +kernel
theorem dX7_isNoTest_11 : decode cX7_isNoTest 11 = .ok (.ireturn, 1) := by decide +kernel
theorem dX7_isBarred_0 : decode cX7_isBarred 0 = .ok (.aload_n 0, 1) := by decide +kernel
theorem dX7_isBarred_1 : decode cX7_isBarred 1 = .ok (.getfield 68, 3) := by decide +kernel
theorem dX7_isBarred_4 : decode cX7_isBarred 4 = .ok (.aload_n 0, 1) := by decide +kernel
theorem dX7_isBarred_5 : decode cX7_isBarred 5 = .ok (.getfield 21, 3) := by decide +kernel
theorem dX7_isBarred_8 : decode cX7_isBarred 8 = .ok (.iload_n 2, 1) := by decide +kernel
theorem dX7_isBarred_9 : decode cX7_isBarred 9 = .ok (.iload_n 3, 1) := by decide +kernel
theorem dX7_isBarred_10 : decode cX7_isBarred 10 = .ok (.invokevirtual 278, 3) := by decide +kernel
theorem dX7_isBarred_13 : decode cX7_isBarred 13 = .ok (.aload_n 0, 1) := by decide +kernel
theorem dX7_isBarred_14 : decode cX7_isBarred 14 = .ok (.getfield 68, 3) := by decide +kernel
theorem dX7_isBarred_17 : decode cX7_isBarred 17 = .ok (.aload_n 0, 1) := by decide +kernel
theorem dX7_isBarred_18 : decode cX7_isBarred 18 = .ok (.getfield 54, 3) := by decide +kernel
theorem dX7_isBarred_21 : decode cX7_isBarred 21 = .ok (.iload_n 1, 1) := by decide +kernel
theorem dX7_isBarred_22 : decode cX7_isBarred 22 = .ok (.aaload, 1) := by decide +kernel
theorem dX7_isBarred_23 : decode cX7_isBarred 23 = .ok (.invokevirtual 282, 3) := by decide +kernel
theorem dX7_isBarred_26 : decode cX7_isBarred 26 = .ok (.ireturn, 1) := by decide +kernel
theorem dX7_bars_0 : decode cX7_bars 0 = .ok (.aload_n 0, 1) := by decide +kernel
theorem dX7_bars_1 : decode cX7_bars 1 = .ok (.iload_n 1, 1) := by decide +kernel
theorem dX7_bars_2 : decode cX7_bars 2 = .ok (.invokevirtual 272, 3) := by decide +kernel
theorem dX7_bars_5 : decode cX7_bars 5 = .ok (.ifCond .ne 12, 3) := by decide +kernel
theorem dX7_bars_8 : decode cX7_bars 8 = .ok (.aload_n 0, 1) := by decide +kernel
theorem dX7_bars_9 : decode cX7_bars 9 = .ok (.iload_n 2, 1) := by decide +kernel
theorem dX7_bars_10 : decode cX7_bars 10 = .ok (.iload_n 3, 1) := by decide +kernel
theorem dX7_bars_11 : decode cX7_bars 11 = .ok (.invokevirtual 208, 3) := by decide +kernel
theorem dX7_bars_14 : decode cX7_bars 14 = .ok (.ifCond .eq 6, 3) := by decide +kernel
theorem dX7_bars_17 : decode cX7_bars 17 = .ok (.bipush (-101), 2) := by decide +kernel
theorem dX7_bars_19 : decode cX7_bars 19 = .ok (.ireturn, 1) := by decide +kernel
theorem dX7_bars_20 : decode cX7_bars 20 = .ok (.aload_n 0, 1) := by decide +kernel
theorem dX7_bars_21 : decode cX7_bars 21 = .ok (.iload_n 1, 1) := by decide +kernel
theorem dX7_bars_22 : decode cX7_bars 22 = .ok (.iload_n 2, 1) := by decide +kernel
theorem dX7_bars_23 : decode cX7_bars 23 = .ok (.iload_n 3, 1) := by decide +kernel
theorem dX7_bars_24 : decode cX7_bars 24 = .ok (.invokevirtual 275, 3) := by decide +kernel
theorem dX7_bars_27 : decode cX7_bars 27 = .ok (.ifCond .eq 7, 3) := by decide +kernel
theorem dX7_bars_30 : decode cX7_bars 30 = .ok (.iconst 1, 1) := by decide +kernel
theorem dX7_bars_31 : decode cX7_bars 31 = .ok (.goto 4, 3) := by decide +kernel
theorem dX7_bars_34 : decode cX7_bars 34 = .ok (.iconst 0, 1) := by decide +kernel
theorem dX7_bars_35 : decode cX7_bars 35 = .ok (.ireturn, 1) := by decide +kernel
theorem dX7_isWrong_0 : decode cX7_isWrong 0 = .ok (.iload_n 2, 1) := by decide +kernel
theorem dX7_isWrong_1 : decode cX7_isWrong 1 = .ok (.iconst (-1), 1) := by decide +kernel
theorem dX7_isWrong_2 : decode cX7_isWrong 2 = .ok (.if_icmp .eq 25, 3) := by decide +kernel
theorem dX7_isWrong_5 : decode cX7_isWrong 5 = .ok (.iload_n 0, 1) := by decide +kernel
theorem dX7_isWrong_6 : decode cX7_isWrong 6 = .ok (.iload_n 1, 1) := by decide +kernel
theorem dX7_isWrong_7 : decode cX7_isWrong 7 = .ok (.if_icmp .ne 20, 3) := by decide +kernel
theorem dX7_isWrong_10 : decode cX7_isWrong 10 = .ok (.iload_n 2, 1) := by decide +kernel
theorem dX7_isWrong_11 : decode cX7_isWrong 11 = .ok (.ifCond .ne 7, 3) := by decide +kernel
theorem dX7_isWrong_14 : decode cX7_isWrong 14 = .ok (.iconst 1, 1) := by decide +kernel
theorem dX7_isWrong_15 : decode cX7_isWrong 15 = .ok (.goto 4, 3) := by decide +kernel
theorem dX7_isWrong_18 : decode cX7_isWrong 18 = .ok (.iconst 0, 1) := by decide +kernel
theorem dX7_isWrong_19 : decode cX7_isWrong 19 = .ok (.iload_n 1, 1) := by decide +kernel
theorem dX7_isWrong_20 : decode cX7_isWrong 20 = .ok (.if_icmp .ne 7, 3) := by decide +kernel
theorem dX7_isWrong_23 : decode cX7_isWrong 23 = .ok (.iconst 1, 1) := by decide +kernel
theorem dX7_isWrong_24 : decode cX7_isWrong 24 = .ok (.goto 4, 3) := by decide +kernel
theorem dX7_isWrong_27 : decode cX7_isWrong 27 = .ok (.iconst 0, 1) := by decide +kernel
theorem dX7_isWrong_28 : decode cX7_isWrong 28 = .ok (.ireturn, 1) := by decide +kernel
theorem dX7_wrong_0 : decode cX7_wrong 0 = .ok (.aload_n 0, 1) := by decide +kernel
theorem dX7_wrong_1 : decode cX7_wrong 1 = .ok (.iload_n 1, 1) := by decide +kernel
theorem dX7_wrong_2 : decode cX7_wrong 2 = .ok (.invokevirtual 272, 3) := by decide +kernel
theorem dX7_wrong_5 : decode cX7_wrong 5 = .ok (.ifCond .eq 6, 3) := by decide +kernel
theorem dX7_wrong_8 : decode cX7_wrong 8 = .ok (.bipush (-101), 2) := by decide +kernel
theorem dX7_wrong_10 : decode cX7_wrong 10 = .ok (.ireturn, 1) := by decide +kernel
theorem dX7_wrong_11 : decode cX7_wrong 11 = .ok (.iload_n 2, 1) := by decide +kernel
theorem dX7_wrong_12 : decode cX7_wrong 12 = .ok (.iconst 0, 1) := by decide +kernel
theorem dX7_wrong_13 : decode cX7_wrong 13 = .ok (.iconst 1, 1) := by decide +kernel
theorem dX7_wrong_14 : decode cX7_wrong 14 = .ok (.invokestatic 72, 3) := by decide +kernel
theorem dX7_wrong_17 : decode cX7_wrong 17 = .ok (.ifCond .eq 6, 3) := by decide +kernel
theorem dX7_wrong_20 : decode cX7_wrong 20 = .ok (.bipush (-102), 2) := by decide +kernel
theorem dX7_wrong_22 : decode cX7_wrong 22 = .ok (.ireturn, 1) := by decide +kernel
theorem dX7_wrong_23 : decode cX7_wrong 23 = .ok (.aload_n 0, 1) := by decide +kernel
theorem dX7_wrong_24 : decode cX7_wrong 24 = .ok (.getfield 285, 3) := by decide +kernel
theorem dX7_wrong_27 : decode cX7_wrong 27 = .ok (.bipush 6, 2) := by decide +kernel
theorem dX7_wrong_29 : decode cX7_wrong 29 = .ok (.if_icmp .lt 6, 3) := by decide +kernel
theorem dX7_wrong_32 : decode cX7_wrong 32 = .ok (.bipush (-103), 2) := by decide +kernel
theorem dX7_wrong_34 : decode cX7_wrong 34 = .ok (.ireturn, 1) := by decide +kernel
theorem dX7_wrong_35 : decode cX7_wrong 35 = .ok (.aload_n 0, 1) := by decide +kernel
theorem dX7_wrong_36 : decode cX7_wrong 36 = .ok (.dup, 1) := by decide +kernel
theorem dX7_wrong_37 : decode cX7_wrong 37 = .ok (.getfield 285, 3) := by decide +kernel
theorem dX7_wrong_40 : decode cX7_wrong 40 = .ok (.iconst 1, 1) := by decide +kernel
theorem dX7_wrong_41 : decode cX7_wrong 41 = .ok (.iadd, 1) := by decide +kernel
theorem dX7_wrong_42 : decode cX7_wrong 42 = .ok (.putfield 285, 3) := by decide +kernel
theorem dX7_wrong_45 : decode cX7_wrong 45 = .ok (.aload_n 0, 1) := by decide +kernel
theorem dX7_wrong_46 : decode cX7_wrong 46 = .ok (.getfield 43, 3) := by decide +kernel
theorem dX7_wrong_49 : decode cX7_wrong 49 = .ok (.aload_n 0, 1) := by decide +kernel
theorem dX7_wrong_50 : decode cX7_wrong 50 = .ok (.getfield 21, 3) := by decide +kernel
theorem dX7_wrong_53 : decode cX7_wrong 53 = .ok (.invokevirtual 218, 3) := by decide +kernel
theorem dX7_wrong_56 : decode cX7_wrong 56 = .ok (.ifCond .ne 5, 3) := by decide +kernel
theorem dX7_wrong_59 : decode cX7_wrong 59 = .ok (.iconst 0, 1) := by decide +kernel
theorem dX7_wrong_60 : decode cX7_wrong 60 = .ok (.ireturn, 1) := by decide +kernel
theorem dX7_wrong_61 : decode cX7_wrong 61 = .ok (.iconst 0, 1) := by decide +kernel
theorem dX7_wrong_62 : decode cX7_wrong 62 = .ok (.istore_n 3, 1) := by decide +kernel
theorem dX7_wrong_63 : decode cX7_wrong 63 = .ok (.iconst 0, 1) := by decide +kernel
theorem dX7_wrong_64 : decode cX7_wrong 64 = .ok (.istore 4, 2) := by decide +kernel
theorem dX7_wrong_66 : decode cX7_wrong 66 = .ok (.iload 4, 2) := by decide +kernel
theorem dX7_wrong_68 : decode cX7_wrong 68 = .ok (.aload_n 0, 1) := by decide +kernel
theorem dX7_wrong_69 : decode cX7_wrong 69 = .ok (.getfield 10, 3) := by decide +kernel
theorem dX7_wrong_72 : decode cX7_wrong 72 = .ok (.getfield 159, 3) := by decide +kernel
theorem dX7_wrong_75 : decode cX7_wrong 75 = .ok (.if_icmp .ge 87, 3) := by decide +kernel
theorem dX7_wrong_78 : decode cX7_wrong 78 = .ok (.iload 4, 2) := by decide +kernel
theorem dX7_wrong_80 : decode cX7_wrong 80 = .ok (.iconst 1, 1) := by decide +kernel
theorem dX7_wrong_81 : decode cX7_wrong 81 = .ok (.iadd, 1) := by decide +kernel
theorem dX7_wrong_82 : decode cX7_wrong 82 = .ok (.istore 5, 2) := by decide +kernel
theorem dX7_wrong_84 : decode cX7_wrong 84 = .ok (.iload 5, 2) := by decide +kernel
theorem dX7_wrong_86 : decode cX7_wrong 86 = .ok (.aload_n 0, 1) := by decide +kernel
theorem dX7_wrong_87 : decode cX7_wrong 87 = .ok (.getfield 10, 3) := by decide +kernel
theorem dX7_wrong_90 : decode cX7_wrong 90 = .ok (.getfield 159, 3) := by decide +kernel
theorem dX7_wrong_93 : decode cX7_wrong 93 = .ok (.if_icmp .ge 63, 3) := by decide +kernel
theorem dX7_wrong_96 : decode cX7_wrong 96 = .ok (.aload_n 0, 1) := by decide +kernel
theorem dX7_wrong_97 : decode cX7_wrong 97 = .ok (.iload 4, 2) := by decide +kernel
theorem dX7_wrong_99 : decode cX7_wrong 99 = .ok (.iload 5, 2) := by decide +kernel
theorem dX7_wrong_101 : decode cX7_wrong 101 = .ok (.invokevirtual 211, 3) := by decide +kernel
theorem dX7_wrong_104 : decode cX7_wrong 104 = .ok (.ifCond .ne 46, 3) := by decide +kernel
theorem dX7_wrong_107 : decode cX7_wrong 107 = .ok (.aload_n 0, 1) := by decide +kernel
theorem dX7_wrong_108 : decode cX7_wrong 108 = .ok (.iload_n 1, 1) := by decide +kernel
theorem dX7_wrong_109 : decode cX7_wrong 109 = .ok (.iload 4, 2) := by decide +kernel
theorem dX7_wrong_111 : decode cX7_wrong 111 = .ok (.iload 5, 2) := by decide +kernel
theorem dX7_wrong_113 : decode cX7_wrong 113 = .ok (.invokevirtual 275, 3) := by decide +kernel
theorem dX7_wrong_116 : decode cX7_wrong 116 = .ok (.iload_n 2, 1) := by decide +kernel
theorem dX7_wrong_117 : decode cX7_wrong 117 = .ok (.iconst 1, 1) := by decide +kernel
theorem dX7_wrong_118 : decode cX7_wrong 118 = .ok (.if_icmp .ne 7, 3) := by decide +kernel
theorem dX7_wrong_121 : decode cX7_wrong 121 = .ok (.iconst 1, 1) := by decide +kernel
theorem dX7_wrong_122 : decode cX7_wrong 122 = .ok (.goto 4, 3) := by decide +kernel
theorem dX7_wrong_125 : decode cX7_wrong 125 = .ok (.iconst 0, 1) := by decide +kernel
theorem dX7_wrong_126 : decode cX7_wrong 126 = .ok (.aload_n 0, 1) := by decide +kernel
theorem dX7_wrong_127 : decode cX7_wrong 127 = .ok (.getfield 43, 3) := by decide +kernel
theorem dX7_wrong_130 : decode cX7_wrong 130 = .ok (.aload_n 0, 1) := by decide +kernel
theorem dX7_wrong_131 : decode cX7_wrong 131 = .ok (.getfield 21, 3) := by decide +kernel
theorem dX7_wrong_134 : decode cX7_wrong 134 = .ok (.iload 4, 2) := by decide +kernel
theorem dX7_wrong_136 : decode cX7_wrong 136 = .ok (.iload 5, 2) := by decide +kernel
theorem dX7_wrong_138 : decode cX7_wrong 138 = .ok (.invokevirtual 242, 3) := by decide +kernel
theorem dX7_wrong_141 : decode cX7_wrong 141 = .ok (.invokestatic 288, 3) := by decide +kernel
theorem dX7_wrong_144 : decode cX7_wrong 144 = .ok (.ifCond .eq 6, 3) := by decide +kernel
theorem dX7_wrong_147 : decode cX7_wrong 147 = .ok (.iinc 3 1, 3) := by decide +kernel
theorem dX7_wrong_150 : decode cX7_wrong 150 = .ok (.iinc 5 1, 3) := by decide +kernel
theorem dX7_wrong_153 : decode cX7_wrong 153 = .ok (.goto (-69), 3) := by decide +kernel
theorem dX7_wrong_156 : decode cX7_wrong 156 = .ok (.iinc 4 1, 3) := by decide +kernel
theorem dX7_wrong_159 : decode cX7_wrong 159 = .ok (.goto (-93), 3) := by decide +kernel
theorem dX7_wrong_162 : decode cX7_wrong 162 = .ok (.iload_n 3, 1) := by decide +kernel
theorem dX7_wrong_163 : decode cX7_wrong 163 = .ok (.ireturn, 1) := by decide +kernel
theorem dX7_image_0 : decode cX7_image 0 = .ok (.aload_n 0, 1) := by decide +kernel
theorem dX7_image_1 : decode cX7_image 1 = .ok (.getfield 28, 3) := by decide +kernel
theorem dX7_image_4 : decode cX7_image 4 = .ok (.aload_n 0, 1) := by decide +kernel
theorem dX7_image_5 : decode cX7_image 5 = .ok (.getfield 21, 3) := by decide +kernel
theorem dX7_image_8 : decode cX7_image 8 = .ok (.invokevirtual 151, 3) := by decide +kernel
theorem dX7_image_11 : decode cX7_image 11 = .ok (.aload_n 0, 1) := by decide +kernel
theorem dX7_image_12 : decode cX7_image 12 = .ok (.iconst 1, 1) := by decide +kernel
theorem dX7_image_13 : decode cX7_image 13 = .ok (.putfield 292, 3) := by decide +kernel
theorem dX7_image_16 : decode cX7_image 16 = .ok (.aload_n 0, 1) := by decide +kernel
theorem dX7_image_17 : decode cX7_image 17 = .ok (.aload_n 0, 1) := by decide +kernel
theorem dX7_image_18 : decode cX7_image 18 = .ok (.getfield 10, 3) := by decide +kernel
theorem dX7_image_21 : decode cX7_image 21 = .ok (.getfield 159, 3) := by decide +kernel
theorem dX7_image_24 : decode cX7_image 24 = .ok (.putfield 295, 3) := by decide +kernel
theorem dX7_image_27 : decode cX7_image 27 = .ok (.aload_n 0, 1) := by decide +kernel
theorem dX7_image_28 : decode cX7_image 28 = .ok (.aload_n 0, 1) := by decide +kernel
theorem dX7_image_29 : decode cX7_image 29 = .ok (.getfield 10, 3) := by decide +kernel
theorem dX7_image_32 : decode cX7_image 32 = .ok (.getfield 175, 3) := by decide +kernel
theorem dX7_image_35 : decode cX7_image 35 = .ok (.putfield 298, 3) := by decide +kernel
theorem dX7_image_38 : decode cX7_image 38 = .ok (.aload_n 0, 1) := by decide +kernel
theorem dX7_image_39 : decode cX7_image 39 = .ok (.getfield 298, 3) := by decide +kernel
theorem dX7_image_42 : decode cX7_image 42 = .ok (.ireturn, 1) := by decide +kernel
theorem dX7_restore_0 : decode cX7_restore 0 = .ok (.aload_n 0, 1) := by decide +kernel
theorem dX7_restore_1 : decode cX7_restore 1 = .ok (.getfield 292, 3) := by decide +kernel
theorem dX7_restore_4 : decode cX7_restore 4 = .ok (.ifCond .eq 17, 3) := by decide +kernel
theorem dX7_restore_7 : decode cX7_restore 7 = .ok (.aload_n 0, 1) := by decide +kernel
theorem dX7_restore_8 : decode cX7_restore 8 = .ok (.getfield 298, 3) := by decide +kernel
theorem dX7_restore_11 : decode cX7_restore 11 = .ok (.aload_n 0, 1) := by decide +kernel
theorem dX7_restore_12 : decode cX7_restore 12 = .ok (.getfield 10, 3) := by decide +kernel
theorem dX7_restore_15 : decode cX7_restore 15 = .ok (.getfield 175, 3) := by decide +kernel
theorem dX7_restore_18 : decode cX7_restore 18 = .ok (.if_icmp .eq 6, 3) := by decide +kernel
theorem dX7_restore_21 : decode cX7_restore 21 = .ok (.bipush (-103), 2) := by decide +kernel
theorem dX7_restore_23 : decode cX7_restore 23 = .ok (.ireturn, 1) := by decide +kernel
theorem dX7_restore_24 : decode cX7_restore 24 = .ok (.aload_n 0, 1) := by decide +kernel
theorem dX7_restore_25 : decode cX7_restore 25 = .ok (.getfield 295, 3) := by decide +kernel
theorem dX7_restore_28 : decode cX7_restore 28 = .ok (.istore_n 1, 1) := by decide +kernel
theorem dX7_restore_29 : decode cX7_restore 29 = .ok (.iload_n 1, 1) := by decide +kernel
theorem dX7_restore_30 : decode cX7_restore 30 = .ok (.aload_n 0, 1) := by decide +kernel
theorem dX7_restore_31 : decode cX7_restore 31 = .ok (.getfield 10, 3) := by decide +kernel
theorem dX7_restore_34 : decode cX7_restore 34 = .ok (.getfield 159, 3) := by decide +kernel
theorem dX7_restore_37 : decode cX7_restore 37 = .ok (.if_icmp .ge 27, 3) := by decide +kernel
theorem dX7_restore_40 : decode cX7_restore 40 = .ok (.aload_n 0, 1) := by decide +kernel
theorem dX7_restore_41 : decode cX7_restore 41 = .ok (.getfield 28, 3) := by decide +kernel
theorem dX7_restore_44 : decode cX7_restore 44 = .ok (.getfield 301, 3) := by decide +kernel
theorem dX7_restore_47 : decode cX7_restore 47 = .ok (.iload_n 1, 1) := by decide +kernel
theorem dX7_restore_48 : decode cX7_restore 48 = .ok (.aload_n 0, 1) := by decide +kernel
theorem dX7_restore_49 : decode cX7_restore 49 = .ok (.getfield 21, 3) := by decide +kernel
theorem dX7_restore_52 : decode cX7_restore 52 = .ok (.getfield 301, 3) := by decide +kernel
theorem dX7_restore_55 : decode cX7_restore 55 = .ok (.iload_n 1, 1) := by decide +kernel
theorem dX7_restore_56 : decode cX7_restore 56 = .ok (.baload, 1) := by decide +kernel
theorem dX7_restore_57 : decode cX7_restore 57 = .ok (.bastore, 1) := by decide +kernel
theorem dX7_restore_58 : decode cX7_restore 58 = .ok (.iinc 1 1, 3) := by decide +kernel
theorem dX7_restore_61 : decode cX7_restore 61 = .ok (.goto (-32), 3) := by decide +kernel
theorem dX7_restore_64 : decode cX7_restore 64 = .ok (.aload_n 0, 1) := by decide +kernel
theorem dX7_restore_65 : decode cX7_restore 65 = .ok (.getfield 21, 3) := by decide +kernel
theorem dX7_restore_68 : decode cX7_restore 68 = .ok (.aload_n 0, 1) := by decide +kernel
theorem dX7_restore_69 : decode cX7_restore 69 = .ok (.getfield 28, 3) := by decide +kernel
theorem dX7_restore_72 : decode cX7_restore 72 = .ok (.invokevirtual 151, 3) := by decide +kernel
theorem dX7_restore_75 : decode cX7_restore 75 = .ok (.aload_n 0, 1) := by decide +kernel
theorem dX7_restore_76 : decode cX7_restore 76 = .ok (.getfield 298, 3) := by decide +kernel
theorem dX7_restore_79 : decode cX7_restore 79 = .ok (.ireturn, 1) := by decide +kernel
theorem dX7_count_0 : decode cX7_count 0 = .ok (.iload_n 1, 1) := by decide +kernel
theorem dX7_count_1 : decode cX7_count 1 = .ok (.tableswitch 94 0 6 #[43, 51, 59, 67, 72, 80, 89], 43) := by decide +kernel
theorem dX7_count_44 : decode cX7_count 44 = .ok (.aload_n 0, 1) := by decide +kernel
theorem dX7_count_45 : decode cX7_count 45 = .ok (.getfield 10, 3) := by decide +kernel
theorem dX7_count_48 : decode cX7_count 48 = .ok (.getfield 159, 3) := by decide +kernel
theorem dX7_count_51 : decode cX7_count 51 = .ok (.ireturn, 1) := by decide +kernel
theorem dX7_count_52 : decode cX7_count 52 = .ok (.aload_n 0, 1) := by decide +kernel
theorem dX7_count_53 : decode cX7_count 53 = .ok (.getfield 10, 3) := by decide +kernel
theorem dX7_count_56 : decode cX7_count 56 = .ok (.getfield 175, 3) := by decide +kernel
theorem dX7_count_59 : decode cX7_count 59 = .ok (.ireturn, 1) := by decide +kernel
theorem dX7_count_60 : decode cX7_count 60 = .ok (.aload_n 0, 1) := by decide +kernel
theorem dX7_count_61 : decode cX7_count 61 = .ok (.getfield 10, 3) := by decide +kernel
theorem dX7_count_64 : decode cX7_count 64 = .ok (.getfield 202, 3) := by decide +kernel
theorem dX7_count_67 : decode cX7_count 67 = .ok (.ireturn, 1) := by decide +kernel
theorem dX7_count_68 : decode cX7_count 68 = .ok (.aload_n 0, 1) := by decide +kernel
theorem dX7_count_69 : decode cX7_count 69 = .ok (.getfield 266, 3) := by decide +kernel
theorem dX7_count_72 : decode cX7_count 72 = .ok (.ireturn, 1) := by decide +kernel
theorem dX7_count_73 : decode cX7_count 73 = .ok (.aload_n 0, 1) := by decide +kernel
theorem dX7_count_74 : decode cX7_count 74 = .ok (.getfield 50, 3) := by decide +kernel
theorem dX7_count_77 : decode cX7_count 77 = .ok (.getfield 249, 3) := by decide +kernel
theorem dX7_count_80 : decode cX7_count 80 = .ok (.ireturn, 1) := by decide +kernel
theorem dX7_count_81 : decode cX7_count 81 = .ok (.aload_n 0, 1) := by decide +kernel
theorem dX7_count_82 : decode cX7_count 82 = .ok (.getfield 21, 3) := by decide +kernel
theorem dX7_count_85 : decode cX7_count 85 = .ok (.iconst (-1), 1) := by decide +kernel
theorem dX7_count_86 : decode cX7_count 86 = .ok (.invokevirtual 113, 3) := by decide +kernel
theorem dX7_count_89 : decode cX7_count 89 = .ok (.ireturn, 1) := by decide +kernel
theorem dX7_count_90 : decode cX7_count 90 = .ok (.aload_n 0, 1) := by decide +kernel
theorem dX7_count_91 : decode cX7_count 91 = .ok (.getfield 285, 3) := by decide +kernel
theorem dX7_count_94 : decode cX7_count 94 = .ok (.ireturn, 1) := by decide +kernel
theorem dX7_count_95 : decode cX7_count 95 = .ok (.bipush (-102), 2) := by decide +kernel
theorem dX7_count_97 : decode cX7_count 97 = .ok (.ireturn, 1) := by decide +kernel
theorem dX7_mix_0 : decode cX7_mix 0 = .ok (.ldc2_w 328, 3) := by decide +kernel
theorem dX7_mix_3 : decode cX7_mix 3 = .ok (.lload_n 0, 1) := by decide +kernel
theorem dX7_mix_4 : decode cX7_mix 4 = .ok (.lmul, 1) := by decide +kernel
theorem dX7_mix_5 : decode cX7_mix 5 = .ok (.lload_n 2, 1) := by decide +kernel
theorem dX7_mix_6 : decode cX7_mix 6 = .ok (.ladd, 1) := by decide +kernel
theorem dX7_mix_7 : decode cX7_mix 7 = .ok (.lreturn, 1) := by decide +kernel
theorem dX7_mixStreet_0 : decode cX7_mixStreet 0 = .ok (.lload_n 1, 1) := by decide +kernel
theorem dX7_mixStreet_1 : decode cX7_mixStreet 1 = .ok (.lstore_n 3, 1) := by decide +kernel
theorem dX7_mixStreet_2 : decode cX7_mixStreet 2 = .ok (.iconst 0, 1) := by decide +kernel
theorem dX7_mixStreet_3 : decode cX7_mixStreet 3 = .ok (.istore 5, 2) := by decide +kernel
theorem dX7_mixStreet_5 : decode cX7_mixStreet 5 = .ok (.iload 5, 2) := by decide +kernel
theorem dX7_mixStreet_7 : decode cX7_mixStreet 7 = .ok (.aload_n 0, 1) := by decide +kernel
theorem dX7_mixStreet_8 : decode cX7_mixStreet 8 = .ok (.getfield 10, 3) := by decide +kernel
theorem dX7_mixStreet_11 : decode cX7_mixStreet 11 = .ok (.getfield 159, 3) := by decide +kernel
theorem dX7_mixStreet_14 : decode cX7_mixStreet 14 = .ok (.if_icmp .ge 56, 3) := by decide +kernel
theorem dX7_mixStreet_17 : decode cX7_mixStreet 17 = .ok (.lload_n 3, 1) := by decide +kernel
theorem dX7_mixStreet_18 : decode cX7_mixStreet 18 = .ok (.aload_n 0, 1) := by decide +kernel
theorem dX7_mixStreet_19 : decode cX7_mixStreet 19 = .ok (.getfield 10, 3) := by decide +kernel
theorem dX7_mixStreet_22 : decode cX7_mixStreet 22 = .ok (.getfield 84, 3) := by decide +kernel
theorem dX7_mixStreet_25 : decode cX7_mixStreet 25 = .ok (.iload 5, 2) := by decide +kernel
theorem dX7_mixStreet_27 : decode cX7_mixStreet 27 = .ok (.iaload, 1) := by decide +kernel
theorem dX7_mixStreet_28 : decode cX7_mixStreet 28 = .ok (.i2l, 1) := by decide +kernel
theorem dX7_mixStreet_29 : decode cX7_mixStreet 29 = .ok (.invokestatic 321, 3) := by decide +kernel
theorem dX7_mixStreet_32 : decode cX7_mixStreet 32 = .ok (.lstore_n 3, 1) := by decide +kernel
theorem dX7_mixStreet_33 : decode cX7_mixStreet 33 = .ok (.lload_n 3, 1) := by decide +kernel
theorem dX7_mixStreet_34 : decode cX7_mixStreet 34 = .ok (.aload_n 0, 1) := by decide +kernel
theorem dX7_mixStreet_35 : decode cX7_mixStreet 35 = .ok (.getfield 10, 3) := by decide +kernel
theorem dX7_mixStreet_38 : decode cX7_mixStreet 38 = .ok (.getfield 330, 3) := by decide +kernel
theorem dX7_mixStreet_41 : decode cX7_mixStreet 41 = .ok (.iload 5, 2) := by decide +kernel
theorem dX7_mixStreet_43 : decode cX7_mixStreet 43 = .ok (.iaload, 1) := by decide +kernel
theorem dX7_mixStreet_44 : decode cX7_mixStreet 44 = .ok (.i2l, 1) := by decide +kernel
theorem dX7_mixStreet_45 : decode cX7_mixStreet 45 = .ok (.invokestatic 321, 3) := by decide +kernel
theorem dX7_mixStreet_48 : decode cX7_mixStreet 48 = .ok (.lstore_n 3, 1) := by decide +kernel
theorem dX7_mixStreet_49 : decode cX7_mixStreet 49 = .ok (.lload_n 3, 1) := by decide +kernel
theorem dX7_mixStreet_50 : decode cX7_mixStreet 50 = .ok (.aload_n 0, 1) := by decide +kernel
theorem dX7_mixStreet_51 : decode cX7_mixStreet 51 = .ok (.getfield 21, 3) := by decide +kernel
theorem dX7_mixStreet_54 : decode cX7_mixStreet 54 = .ok (.iload 5, 2) := by decide +kernel
theorem dX7_mixStreet_56 : decode cX7_mixStreet 56 = .ok (.invokevirtual 133, 3) := by decide +kernel
theorem dX7_mixStreet_59 : decode cX7_mixStreet 59 = .ok (.i2l, 1) := by decide +kernel
theorem dX7_mixStreet_60 : decode cX7_mixStreet 60 = .ok (.invokestatic 321, 3) := by decide +kernel
theorem dX7_mixStreet_63 : decode cX7_mixStreet 63 = .ok (.lstore_n 3, 1) := by decide +kernel
theorem dX7_mixStreet_64 : decode cX7_mixStreet 64 = .ok (.iinc 5 1, 3) := by decide +kernel
theorem dX7_mixStreet_67 : decode cX7_mixStreet 67 = .ok (.goto (-62), 3) := by decide +kernel
theorem dX7_mixStreet_70 : decode cX7_mixStreet 70 = .ok (.iconst 0, 1) := by decide +kernel
theorem dX7_mixStreet_71 : decode cX7_mixStreet 71 = .ok (.istore 5, 2) := by decide +kernel
theorem dX7_mixStreet_73 : decode cX7_mixStreet 73 = .ok (.iload 5, 2) := by decide +kernel
theorem dX7_mixStreet_75 : decode cX7_mixStreet 75 = .ok (.aload_n 0, 1) := by decide +kernel
theorem dX7_mixStreet_76 : decode cX7_mixStreet 76 = .ok (.getfield 10, 3) := by decide +kernel
theorem dX7_mixStreet_79 : decode cX7_mixStreet 79 = .ok (.getfield 175, 3) := by decide +kernel
theorem dX7_mixStreet_82 : decode cX7_mixStreet 82 = .ok (.if_icmp .ge 38, 3) := by decide +kernel
theorem dX7_mixStreet_85 : decode cX7_mixStreet 85 = .ok (.iconst 0, 1) := by decide +kernel
theorem dX7_mixStreet_86 : decode cX7_mixStreet 86 = .ok (.istore 6, 2) := by decide +kernel
theorem dX7_mixStreet_88 : decode cX7_mixStreet 88 = .ok (.iload 6, 2) := by decide +kernel
theorem dX7_mixStreet_90 : decode cX7_mixStreet 90 = .ok (.iconst 5, 1) := by decide +kernel
theorem dX7_mixStreet_91 : decode cX7_mixStreet 91 = .ok (.if_icmp .gt 23, 3) := by decide +kernel
theorem dX7_mixStreet_94 : decode cX7_mixStreet 94 = .ok (.lload_n 3, 1) := by decide +kernel
theorem dX7_mixStreet_95 : decode cX7_mixStreet 95 = .ok (.aload_n 0, 1) := by decide +kernel
theorem dX7_mixStreet_96 : decode cX7_mixStreet 96 = .ok (.iload 5, 2) := by decide +kernel
theorem dX7_mixStreet_98 : decode cX7_mixStreet 98 = .ok (.iload 6, 2) := by decide +kernel
theorem dX7_mixStreet_100 : decode cX7_mixStreet 100 = .ok (.invokevirtual 333, 3) := by decide +kernel
theorem dX7_mixStreet_103 : decode cX7_mixStreet 103 = .ok (.i2l, 1) := by decide +kernel
theorem dX7_mixStreet_104 : decode cX7_mixStreet 104 = .ok (.invokestatic 321, 3) := by decide +kernel
theorem dX7_mixStreet_107 : decode cX7_mixStreet 107 = .ok (.lstore_n 3, 1) := by decide +kernel
theorem dX7_mixStreet_108 : decode cX7_mixStreet 108 = .ok (.iinc 6 1, 3) := by decide +kernel
theorem dX7_mixStreet_111 : decode cX7_mixStreet 111 = .ok (.goto (-23), 3) := by decide +kernel
theorem dX7_mixStreet_114 : decode cX7_mixStreet 114 = .ok (.iinc 5 1, 3) := by decide +kernel
theorem dX7_mixStreet_117 : decode cX7_mixStreet 117 = .ok (.goto (-44), 3) := by decide +kernel
theorem dX7_mixStreet_120 : decode cX7_mixStreet 120 = .ok (.lload_n 3, 1) := by decide +kernel
theorem dX7_mixStreet_121 : decode cX7_mixStreet 121 = .ok (.lreturn, 1) := by decide +kernel
theorem dX7_mixSorts_0 : decode cX7_mixSorts 0 = .ok (.lload_n 1, 1) := by decide +kernel
theorem dX7_mixSorts_1 : decode cX7_mixSorts 1 = .ok (.lstore_n 3, 1) := by decide +kernel
theorem dX7_mixSorts_2 : decode cX7_mixSorts 2 = .ok (.iconst 0, 1) := by decide +kernel
theorem dX7_mixSorts_3 : decode cX7_mixSorts 3 = .ok (.istore 5, 2) := by decide +kernel
theorem dX7_mixSorts_5 : decode cX7_mixSorts 5 = .ok (.iload 5, 2) := by decide +kernel
theorem dX7_mixSorts_7 : decode cX7_mixSorts 7 = .ok (.aload_n 0, 1) := by decide +kernel
theorem dX7_mixSorts_8 : decode cX7_mixSorts 8 = .ok (.getfield 10, 3) := by decide +kernel
theorem dX7_mixSorts_11 : decode cX7_mixSorts 11 = .ok (.getfield 202, 3) := by decide +kernel
theorem dX7_mixSorts_14 : decode cX7_mixSorts 14 = .ok (.if_icmp .ge 136, 3) := by decide +kernel
theorem dX7_mixSorts_17 : decode cX7_mixSorts 17 = .ok (.lload_n 3, 1) := by decide +kernel
theorem dX7_mixSorts_18 : decode cX7_mixSorts 18 = .ok (.aload_n 0, 1) := by decide +kernel
theorem dX7_mixSorts_19 : decode cX7_mixSorts 19 = .ok (.getfield 10, 3) := by decide +kernel
theorem dX7_mixSorts_22 : decode cX7_mixSorts 22 = .ok (.getfield 336, 3) := by decide +kernel
theorem dX7_mixSorts_25 : decode cX7_mixSorts 25 = .ok (.iload 5, 2) := by decide +kernel
theorem dX7_mixSorts_27 : decode cX7_mixSorts 27 = .ok (.iaload, 1) := by decide +kernel
theorem dX7_mixSorts_28 : decode cX7_mixSorts 28 = .ok (.i2l, 1) := by decide +kernel
theorem dX7_mixSorts_29 : decode cX7_mixSorts 29 = .ok (.invokestatic 321, 3) := by decide +kernel
theorem dX7_mixSorts_32 : decode cX7_mixSorts 32 = .ok (.lstore_n 3, 1) := by decide +kernel
theorem dX7_mixSorts_33 : decode cX7_mixSorts 33 = .ok (.lload_n 3, 1) := by decide +kernel
theorem dX7_mixSorts_34 : decode cX7_mixSorts 34 = .ok (.aload_n 0, 1) := by decide +kernel
theorem dX7_mixSorts_35 : decode cX7_mixSorts 35 = .ok (.getfield 10, 3) := by decide +kernel
theorem dX7_mixSorts_38 : decode cX7_mixSorts 38 = .ok (.getfield 205, 3) := by decide +kernel
theorem dX7_mixSorts_41 : decode cX7_mixSorts 41 = .ok (.iload 5, 2) := by decide +kernel
theorem dX7_mixSorts_43 : decode cX7_mixSorts 43 = .ok (.iaload, 1) := by decide +kernel
theorem dX7_mixSorts_44 : decode cX7_mixSorts 44 = .ok (.i2l, 1) := by decide +kernel
theorem dX7_mixSorts_45 : decode cX7_mixSorts 45 = .ok (.invokestatic 321, 3) := by decide +kernel
theorem dX7_mixSorts_48 : decode cX7_mixSorts 48 = .ok (.lstore_n 3, 1) := by decide +kernel
theorem dX7_mixSorts_49 : decode cX7_mixSorts 49 = .ok (.lload_n 3, 1) := by decide +kernel
theorem dX7_mixSorts_50 : decode cX7_mixSorts 50 = .ok (.aload_n 0, 1) := by decide +kernel
theorem dX7_mixSorts_51 : decode cX7_mixSorts 51 = .ok (.getfield 10, 3) := by decide +kernel
theorem dX7_mixSorts_54 : decode cX7_mixSorts 54 = .ok (.getfield 339, 3) := by decide +kernel
theorem dX7_mixSorts_57 : decode cX7_mixSorts 57 = .ok (.iload 5, 2) := by decide +kernel
theorem dX7_mixSorts_59 : decode cX7_mixSorts 59 = .ok (.iaload, 1) := by decide +kernel
theorem dX7_mixSorts_60 : decode cX7_mixSorts 60 = .ok (.i2l, 1) := by decide +kernel
theorem dX7_mixSorts_61 : decode cX7_mixSorts 61 = .ok (.invokestatic 321, 3) := by decide +kernel
theorem dX7_mixSorts_64 : decode cX7_mixSorts 64 = .ok (.lstore_n 3, 1) := by decide +kernel
theorem dX7_mixSorts_65 : decode cX7_mixSorts 65 = .ok (.lload_n 3, 1) := by decide +kernel
theorem dX7_mixSorts_66 : decode cX7_mixSorts 66 = .ok (.aload_n 0, 1) := by decide +kernel
theorem dX7_mixSorts_67 : decode cX7_mixSorts 67 = .ok (.getfield 10, 3) := by decide +kernel
theorem dX7_mixSorts_70 : decode cX7_mixSorts 70 = .ok (.getfield 342, 3) := by decide +kernel
theorem dX7_mixSorts_73 : decode cX7_mixSorts 73 = .ok (.iload 5, 2) := by decide +kernel
theorem dX7_mixSorts_75 : decode cX7_mixSorts 75 = .ok (.iaload, 1) := by decide +kernel
theorem dX7_mixSorts_76 : decode cX7_mixSorts 76 = .ok (.i2l, 1) := by decide +kernel
theorem dX7_mixSorts_77 : decode cX7_mixSorts 77 = .ok (.invokestatic 321, 3) := by decide +kernel
theorem dX7_mixSorts_80 : decode cX7_mixSorts 80 = .ok (.lstore_n 3, 1) := by decide +kernel
theorem dX7_mixSorts_81 : decode cX7_mixSorts 81 = .ok (.lload_n 3, 1) := by decide +kernel
theorem dX7_mixSorts_82 : decode cX7_mixSorts 82 = .ok (.aload_n 0, 1) := by decide +kernel
theorem dX7_mixSorts_83 : decode cX7_mixSorts 83 = .ok (.getfield 10, 3) := by decide +kernel
theorem dX7_mixSorts_86 : decode cX7_mixSorts 86 = .ok (.getfield 345, 3) := by decide +kernel
theorem dX7_mixSorts_89 : decode cX7_mixSorts 89 = .ok (.iload 5, 2) := by decide +kernel
theorem dX7_mixSorts_91 : decode cX7_mixSorts 91 = .ok (.iaload, 1) := by decide +kernel
theorem dX7_mixSorts_92 : decode cX7_mixSorts 92 = .ok (.i2l, 1) := by decide +kernel
theorem dX7_mixSorts_93 : decode cX7_mixSorts 93 = .ok (.invokestatic 321, 3) := by decide +kernel
theorem dX7_mixSorts_96 : decode cX7_mixSorts 96 = .ok (.lstore_n 3, 1) := by decide +kernel
theorem dX7_mixSorts_97 : decode cX7_mixSorts 97 = .ok (.lload_n 3, 1) := by decide +kernel
theorem dX7_mixSorts_98 : decode cX7_mixSorts 98 = .ok (.aload_n 0, 1) := by decide +kernel
theorem dX7_mixSorts_99 : decode cX7_mixSorts 99 = .ok (.getfield 10, 3) := by decide +kernel
theorem dX7_mixSorts_102 : decode cX7_mixSorts 102 = .ok (.getfield 348, 3) := by decide +kernel
theorem dX7_mixSorts_105 : decode cX7_mixSorts 105 = .ok (.iload 5, 2) := by decide +kernel
theorem dX7_mixSorts_107 : decode cX7_mixSorts 107 = .ok (.iaload, 1) := by decide +kernel
theorem dX7_mixSorts_108 : decode cX7_mixSorts 108 = .ok (.i2l, 1) := by decide +kernel
theorem dX7_mixSorts_109 : decode cX7_mixSorts 109 = .ok (.invokestatic 321, 3) := by decide +kernel
theorem dX7_mixSorts_112 : decode cX7_mixSorts 112 = .ok (.lstore_n 3, 1) := by decide +kernel
theorem dX7_mixSorts_113 : decode cX7_mixSorts 113 = .ok (.lload_n 3, 1) := by decide +kernel
theorem dX7_mixSorts_114 : decode cX7_mixSorts 114 = .ok (.aload_n 0, 1) := by decide +kernel
theorem dX7_mixSorts_115 : decode cX7_mixSorts 115 = .ok (.getfield 21, 3) := by decide +kernel
theorem dX7_mixSorts_118 : decode cX7_mixSorts 118 = .ok (.iload 5, 2) := by decide +kernel
theorem dX7_mixSorts_120 : decode cX7_mixSorts 120 = .ok (.iconst (-1), 1) := by decide +kernel
theorem dX7_mixSorts_121 : decode cX7_mixSorts 121 = .ok (.invokevirtual 126, 3) := by decide +kernel
theorem dX7_mixSorts_124 : decode cX7_mixSorts 124 = .ok (.i2l, 1) := by decide +kernel
theorem dX7_mixSorts_125 : decode cX7_mixSorts 125 = .ok (.invokestatic 321, 3) := by decide +kernel
theorem dX7_mixSorts_128 : decode cX7_mixSorts 128 = .ok (.lstore_n 3, 1) := by decide +kernel
theorem dX7_mixSorts_129 : decode cX7_mixSorts 129 = .ok (.lload_n 3, 1) := by decide +kernel
theorem dX7_mixSorts_130 : decode cX7_mixSorts 130 = .ok (.aload_n 0, 1) := by decide +kernel
theorem dX7_mixSorts_131 : decode cX7_mixSorts 131 = .ok (.getfield 21, 3) := by decide +kernel
theorem dX7_mixSorts_134 : decode cX7_mixSorts 134 = .ok (.iload 5, 2) := by decide +kernel
theorem dX7_mixSorts_136 : decode cX7_mixSorts 136 = .ok (.invokevirtual 129, 3) := by decide +kernel
theorem dX7_mixSorts_139 : decode cX7_mixSorts 139 = .ok (.i2l, 1) := by decide +kernel
theorem dX7_mixSorts_140 : decode cX7_mixSorts 140 = .ok (.invokestatic 321, 3) := by decide +kernel
theorem dX7_mixSorts_143 : decode cX7_mixSorts 143 = .ok (.lstore_n 3, 1) := by decide +kernel
theorem dX7_mixSorts_144 : decode cX7_mixSorts 144 = .ok (.iinc 5 1, 3) := by decide +kernel
theorem dX7_mixSorts_147 : decode cX7_mixSorts 147 = .ok (.goto (-142), 3) := by decide +kernel
theorem dX7_mixSorts_150 : decode cX7_mixSorts 150 = .ok (.lload_n 3, 1) := by decide +kernel
theorem dX7_mixSorts_151 : decode cX7_mixSorts 151 = .ok (.lreturn, 1) := by decide +kernel
theorem dX7_mixTests_0 : decode cX7_mixTests 0 = .ok (.lload_n 1, 1) := by decide +kernel
theorem dX7_mixTests_1 : decode cX7_mixTests 1 = .ok (.lstore_n 3, 1) := by decide +kernel
theorem dX7_mixTests_2 : decode cX7_mixTests 2 = .ok (.iconst 0, 1) := by decide +kernel
theorem dX7_mixTests_3 : decode cX7_mixTests 3 = .ok (.istore 5, 2) := by decide +kernel
theorem dX7_mixTests_5 : decode cX7_mixTests 5 = .ok (.iload 5, 2) := by decide +kernel
theorem dX7_mixTests_7 : decode cX7_mixTests 7 = .ok (.aload_n 0, 1) := by decide +kernel
theorem dX7_mixTests_8 : decode cX7_mixTests 8 = .ok (.getfield 266, 3) := by decide +kernel
theorem dX7_mixTests_11 : decode cX7_mixTests 11 = .ok (.if_icmp .ge 77, 3) := by decide +kernel
theorem dX7_mixTests_14 : decode cX7_mixTests 14 = .ok (.iconst 0, 1) := by decide +kernel
theorem dX7_mixTests_15 : decode cX7_mixTests 15 = .ok (.istore 6, 2) := by decide +kernel
theorem dX7_mixTests_17 : decode cX7_mixTests 17 = .ok (.iload 6, 2) := by decide +kernel
theorem dX7_mixTests_19 : decode cX7_mixTests 19 = .ok (.aload_n 0, 1) := by decide +kernel
theorem dX7_mixTests_20 : decode cX7_mixTests 20 = .ok (.getfield 10, 3) := by decide +kernel
theorem dX7_mixTests_23 : decode cX7_mixTests 23 = .ok (.getfield 159, 3) := by decide +kernel
theorem dX7_mixTests_26 : decode cX7_mixTests 26 = .ok (.if_icmp .ge 56, 3) := by decide +kernel
theorem dX7_mixTests_29 : decode cX7_mixTests 29 = .ok (.iload 6, 2) := by decide +kernel
theorem dX7_mixTests_31 : decode cX7_mixTests 31 = .ok (.iconst 1, 1) := by decide +kernel
theorem dX7_mixTests_32 : decode cX7_mixTests 32 = .ok (.iadd, 1) := by decide +kernel
theorem dX7_mixTests_33 : decode cX7_mixTests 33 = .ok (.istore 7, 2) := by decide +kernel
theorem dX7_mixTests_35 : decode cX7_mixTests 35 = .ok (.iload 7, 2) := by decide +kernel
theorem dX7_mixTests_37 : decode cX7_mixTests 37 = .ok (.aload_n 0, 1) := by decide +kernel
theorem dX7_mixTests_38 : decode cX7_mixTests 38 = .ok (.getfield 10, 3) := by decide +kernel
theorem dX7_mixTests_41 : decode cX7_mixTests 41 = .ok (.getfield 159, 3) := by decide +kernel
theorem dX7_mixTests_44 : decode cX7_mixTests 44 = .ok (.if_icmp .ge 32, 3) := by decide +kernel
theorem dX7_mixTests_47 : decode cX7_mixTests 47 = .ok (.lload_n 3, 1) := by decide +kernel
theorem dX7_mixTests_48 : decode cX7_mixTests 48 = .ok (.aload_n 0, 1) := by decide +kernel
theorem dX7_mixTests_49 : decode cX7_mixTests 49 = .ok (.iload 5, 2) := by decide +kernel
theorem dX7_mixTests_51 : decode cX7_mixTests 51 = .ok (.iload 6, 2) := by decide +kernel
theorem dX7_mixTests_53 : decode cX7_mixTests 53 = .ok (.iload 7, 2) := by decide +kernel
theorem dX7_mixTests_55 : decode cX7_mixTests 55 = .ok (.invokevirtual 275, 3) := by decide +kernel
theorem dX7_mixTests_58 : decode cX7_mixTests 58 = .ok (.ifCond .eq 7, 3) := by decide +kernel
theorem dX7_mixTests_61 : decode cX7_mixTests 61 = .ok (.lconst 1, 1) := by decide +kernel
theorem dX7_mixTests_62 : decode cX7_mixTests 62 = .ok (.goto 4, 3) := by decide +kernel
theorem dX7_mixTests_65 : decode cX7_mixTests 65 = .ok (.lconst 0, 1) := by decide +kernel
theorem dX7_mixTests_66 : decode cX7_mixTests 66 = .ok (.invokestatic 321, 3) := by decide +kernel
theorem dX7_mixTests_69 : decode cX7_mixTests 69 = .ok (.lstore_n 3, 1) := by decide +kernel
theorem dX7_mixTests_70 : decode cX7_mixTests 70 = .ok (.iinc 7 1, 3) := by decide +kernel
theorem dX7_mixTests_73 : decode cX7_mixTests 73 = .ok (.goto (-38), 3) := by decide +kernel
theorem dX7_mixTests_76 : decode cX7_mixTests 76 = .ok (.iinc 6 1, 3) := by decide +kernel
theorem dX7_mixTests_79 : decode cX7_mixTests 79 = .ok (.goto (-62), 3) := by decide +kernel
theorem dX7_mixTests_82 : decode cX7_mixTests 82 = .ok (.iinc 5 1, 3) := by decide +kernel
theorem dX7_mixTests_85 : decode cX7_mixTests 85 = .ok (.goto (-80), 3) := by decide +kernel
theorem dX7_mixTests_88 : decode cX7_mixTests 88 = .ok (.lload_n 3, 1) := by decide +kernel
theorem dX7_mixTests_89 : decode cX7_mixTests 89 = .ok (.lreturn, 1) := by decide +kernel
theorem dX7_digest_0 : decode cX7_digest 0 = .ok (.aload_n 0, 1) := by decide +kernel
theorem dX7_digest_1 : decode cX7_digest 1 = .ok (.ldc2_w 305, 3) := by decide +kernel
theorem dX7_digest_4 : decode cX7_digest 4 = .ok (.invokevirtual 307, 3) := by decide +kernel
theorem dX7_digest_7 : decode cX7_digest 7 = .ok (.lstore_n 1, 1) := by decide +kernel
theorem dX7_digest_8 : decode cX7_digest 8 = .ok (.aload_n 0, 1) := by decide +kernel
theorem dX7_digest_9 : decode cX7_digest 9 = .ok (.lload_n 1, 1) := by decide +kernel
theorem dX7_digest_10 : decode cX7_digest 10 = .ok (.invokevirtual 311, 3) := by decide +kernel
theorem dX7_digest_13 : decode cX7_digest 13 = .ok (.lstore_n 1, 1) := by decide +kernel
theorem dX7_digest_14 : decode cX7_digest 14 = .ok (.aload_n 0, 1) := by decide +kernel
theorem dX7_digest_15 : decode cX7_digest 15 = .ok (.lload_n 1, 1) := by decide +kernel
theorem dX7_digest_16 : decode cX7_digest 16 = .ok (.invokevirtual 314, 3) := by decide +kernel
theorem dX7_digest_19 : decode cX7_digest 19 = .ok (.lstore_n 1, 1) := by decide +kernel
theorem dX7_digest_20 : decode cX7_digest 20 = .ok (.iconst 0, 1) := by decide +kernel
theorem dX7_digest_21 : decode cX7_digest 21 = .ok (.istore_n 3, 1) := by decide +kernel
theorem dX7_digest_22 : decode cX7_digest 22 = .ok (.iload_n 3, 1) := by decide +kernel
theorem dX7_digest_23 : decode cX7_digest 23 = .ok (.aload_n 0, 1) := by decide +kernel
theorem dX7_digest_24 : decode cX7_digest 24 = .ok (.getfield 50, 3) := by decide +kernel
theorem dX7_digest_27 : decode cX7_digest 27 = .ok (.getfield 249, 3) := by decide +kernel
theorem dX7_digest_30 : decode cX7_digest 30 = .ok (.if_icmp .ge 24, 3) := by decide +kernel
theorem dX7_digest_33 : decode cX7_digest 33 = .ok (.lload_n 1, 1) := by decide +kernel
theorem dX7_digest_34 : decode cX7_digest 34 = .ok (.aload_n 0, 1) := by decide +kernel
theorem dX7_digest_35 : decode cX7_digest 35 = .ok (.getfield 50, 3) := by decide +kernel
theorem dX7_digest_38 : decode cX7_digest 38 = .ok (.getfield 317, 3) := by decide +kernel
theorem dX7_digest_41 : decode cX7_digest 41 = .ok (.iload_n 3, 1) := by decide +kernel
theorem dX7_digest_42 : decode cX7_digest 42 = .ok (.caload, 1) := by decide +kernel
theorem dX7_digest_43 : decode cX7_digest 43 = .ok (.i2l, 1) := by decide +kernel
theorem dX7_digest_44 : decode cX7_digest 44 = .ok (.invokestatic 321, 3) := by decide +kernel
theorem dX7_digest_47 : decode cX7_digest 47 = .ok (.lstore_n 1, 1) := by decide +kernel
theorem dX7_digest_48 : decode cX7_digest 48 = .ok (.iinc 3 1, 3) := by decide +kernel
theorem dX7_digest_51 : decode cX7_digest 51 = .ok (.goto (-29), 3) := by decide +kernel
theorem dX7_digest_54 : decode cX7_digest 54 = .ok (.iconst 0, 1) := by decide +kernel
theorem dX7_digest_55 : decode cX7_digest 55 = .ok (.istore_n 3, 1) := by decide +kernel
theorem dX7_digest_56 : decode cX7_digest 56 = .ok (.iload_n 3, 1) := by decide +kernel
theorem dX7_digest_57 : decode cX7_digest 57 = .ok (.bipush 6, 2) := by decide +kernel
theorem dX7_digest_59 : decode cX7_digest 59 = .ok (.if_icmp .gt 20, 3) := by decide +kernel
theorem dX7_digest_62 : decode cX7_digest 62 = .ok (.lload_n 1, 1) := by decide +kernel
theorem dX7_digest_63 : decode cX7_digest 63 = .ok (.aload_n 0, 1) := by decide +kernel
theorem dX7_digest_64 : decode cX7_digest 64 = .ok (.iload_n 3, 1) := by decide +kernel
theorem dX7_digest_65 : decode cX7_digest 65 = .ok (.invokevirtual 325, 3) := by decide +kernel
theorem dX7_digest_68 : decode cX7_digest 68 = .ok (.i2l, 1) := by decide +kernel
theorem dX7_digest_69 : decode cX7_digest 69 = .ok (.invokestatic 321, 3) := by decide +kernel
theorem dX7_digest_72 : decode cX7_digest 72 = .ok (.lstore_n 1, 1) := by decide +kernel
theorem dX7_digest_73 : decode cX7_digest 73 = .ok (.iinc 3 1, 3) := by decide +kernel
theorem dX7_digest_76 : decode cX7_digest 76 = .ok (.goto (-20), 3) := by decide +kernel
theorem dX7_digest_79 : decode cX7_digest 79 = .ok (.lload_n 1, 1) := by decide +kernel
theorem dX7_digest_80 : decode cX7_digest 80 = .ok (.lreturn, 1) := by decide +kernel
theorem dX8_within_0 : decode cX8_within 0 = .ok (.iload_n 0, 1) := by decide +kernel
theorem dX8_within_1 : decode cX8_within 1 = .ok (.iload_n 1, 1) := by decide +kernel
theorem dX8_within_2 : decode cX8_within 2 = .ok (.if_icmp .lt 12, 3) := by decide +kernel
theorem dX8_within_5 : decode cX8_within 5 = .ok (.iload_n 0, 1) := by decide +kernel
theorem dX8_within_6 : decode cX8_within 6 = .ok (.iload_n 2, 1) := by decide +kernel
theorem dX8_within_7 : decode cX8_within 7 = .ok (.if_icmp .gt 7, 3) := by decide +kernel
theorem dX8_within_10 : decode cX8_within 10 = .ok (.iconst 1, 1) := by decide +kernel
theorem dX8_within_11 : decode cX8_within 11 = .ok (.goto 4, 3) := by decide +kernel
theorem dX8_within_14 : decode cX8_within 14 = .ok (.iconst 0, 1) := by decide +kernel
theorem dX8_within_15 : decode cX8_within 15 = .ok (.ireturn, 1) := by decide +kernel
theorem dX8_size_0 : decode cX8_size 0 = .ok (.iload_n 0, 1) := by decide +kernel
theorem dX8_size_1 : decode cX8_size 1 = .ok (.ifCond .ge 8, 3) := by decide +kernel
theorem dX8_size_4 : decode cX8_size 4 = .ok (.iload_n 0, 1) := by decide +kernel
theorem dX8_size_5 : decode cX8_size 5 = .ok (.ineg, 1) := by decide +kernel
theorem dX8_size_6 : decode cX8_size 6 = .ok (.goto 4, 3) := by decide +kernel
theorem dX8_size_9 : decode cX8_size 9 = .ok (.iload_n 0, 1) := by decide +kernel
theorem dX8_size_10 : decode cX8_size 10 = .ok (.ireturn, 1) := by decide +kernel
theorem dX8_isOwner_0 : decode cX8_isOwner 0 = .ok (.iload_n 1, 1) := by decide +kernel
theorem dX8_isOwner_1 : decode cX8_isOwner 1 = .ok (.iconst 0, 1) := by decide +kernel
theorem dX8_isOwner_2 : decode cX8_isOwner 2 = .ok (.aload_n 0, 1) := by decide +kernel
theorem dX8_isOwner_3 : decode cX8_isOwner 3 = .ok (.getfield 91, 3) := by decide +kernel
theorem dX8_isOwner_6 : decode cX8_isOwner 6 = .ok (.iconst 1, 1) := by decide +kernel
theorem dX8_isOwner_7 : decode cX8_isOwner 7 = .ok (.isub, 1) := by decide +kernel
theorem dX8_isOwner_8 : decode cX8_isOwner 8 = .ok (.invokestatic 94, 3) := by decide +kernel
theorem dX8_isOwner_11 : decode cX8_isOwner 11 = .ok (.ireturn, 1) := by decide +kernel
theorem dX8_isShop_0 : decode cX8_isShop 0 = .ok (.iload_n 1, 1) := by decide +kernel
theorem dX8_isShop_1 : decode cX8_isShop 1 = .ok (.iconst 0, 1) := by decide +kernel
theorem dX8_isShop_2 : decode cX8_isShop 2 = .ok (.aload_n 0, 1) := by decide +kernel
theorem dX8_isShop_3 : decode cX8_isShop 3 = .ok (.getfield 98, 3) := by decide +kernel
theorem dX8_isShop_6 : decode cX8_isShop 6 = .ok (.iconst 1, 1) := by decide +kernel
theorem dX8_isShop_7 : decode cX8_isShop 7 = .ok (.isub, 1) := by decide +kernel
theorem dX8_isShop_8 : decode cX8_isShop 8 = .ok (.invokestatic 94, 3) := by decide +kernel
theorem dX8_isShop_11 : decode cX8_isShop 11 = .ok (.ireturn, 1) := by decide +kernel
theorem dX8_isSort_0 : decode cX8_isSort 0 = .ok (.iload_n 1, 1) := by decide +kernel
theorem dX8_isSort_1 : decode cX8_isSort 1 = .ok (.iconst 0, 1) := by decide +kernel
theorem dX8_isSort_2 : decode cX8_isSort 2 = .ok (.aload_n 0, 1) := by decide +kernel
theorem dX8_isSort_3 : decode cX8_isSort 3 = .ok (.getfield 101, 3) := by decide +kernel
theorem dX8_isSort_6 : decode cX8_isSort 6 = .ok (.iconst 1, 1) := by decide +kernel
theorem dX8_isSort_7 : decode cX8_isSort 7 = .ok (.isub, 1) := by decide +kernel
theorem dX8_isSort_8 : decode cX8_isSort 8 = .ok (.invokestatic 94, 3) := by decide +kernel
theorem dX8_isSort_11 : decode cX8_isSort 11 = .ok (.ireturn, 1) := by decide +kernel
theorem dX8_owner_0 : decode cX8_owner 0 = .ok (.iload_n 1, 1) := by decide +kernel
theorem dX8_owner_1 : decode cX8_owner 1 = .ok (.iconst 0, 1) := by decide +kernel
theorem dX8_owner_2 : decode cX8_owner 2 = .ok (.iconst 4, 1) := by decide +kernel
theorem dX8_owner_3 : decode cX8_owner 3 = .ok (.invokestatic 94, 3) := by decide +kernel
theorem dX8_owner_6 : decode cX8_owner 6 = .ok (.ifCond .eq 13, 3) := by decide +kernel
theorem dX8_owner_9 : decode cX8_owner 9 = .ok (.iload_n 2, 1) := by decide +kernel
theorem dX8_owner_10 : decode cX8_owner 10 = .ok (.iconst 0, 1) := by decide +kernel
theorem dX8_owner_11 : decode cX8_owner 11 = .ok (.bipush 99, 2) := by decide +kernel
theorem dX8_owner_13 : decode cX8_owner 13 = .ok (.invokestatic 94, 3) := by decide +kernel
theorem dX8_owner_16 : decode cX8_owner 16 = .ok (.ifCond .ne 6, 3) := by decide +kernel
theorem dX8_owner_19 : decode cX8_owner 19 = .ok (.bipush (-102), 2) := by decide +kernel
theorem dX8_owner_21 : decode cX8_owner 21 = .ok (.ireturn, 1) := by decide +kernel
theorem dX8_owner_22 : decode cX8_owner 22 = .ok (.aload_n 0, 1) := by decide +kernel
theorem dX8_owner_23 : decode cX8_owner 23 = .ok (.getfield 91, 3) := by decide +kernel
theorem dX8_owner_26 : decode cX8_owner 26 = .ok (.bipush 6, 2) := by decide +kernel
theorem dX8_owner_28 : decode cX8_owner 28 = .ok (.if_icmp .ne 6, 3) := by decide +kernel
theorem dX8_owner_31 : decode cX8_owner 31 = .ok (.bipush (-104), 2) := by decide +kernel
theorem dX8_owner_33 : decode cX8_owner 33 = .ok (.ireturn, 1) := by decide +kernel
theorem dX8_owner_34 : decode cX8_owner 34 = .ok (.aload_n 0, 1) := by decide +kernel
theorem dX8_owner_35 : decode cX8_owner 35 = .ok (.getfield 7, 3) := by decide +kernel
theorem dX8_owner_38 : decode cX8_owner 38 = .ok (.aload_n 0, 1) := by decide +kernel
theorem dX8_owner_39 : decode cX8_owner 39 = .ok (.getfield 91, 3) := by decide +kernel
theorem dX8_owner_42 : decode cX8_owner 42 = .ok (.iload_n 1, 1) := by decide +kernel
theorem dX8_owner_43 : decode cX8_owner 43 = .ok (.iastore, 1) := by decide +kernel
theorem dX8_owner_44 : decode cX8_owner 44 = .ok (.aload_n 0, 1) := by decide +kernel
theorem dX8_owner_45 : decode cX8_owner 45 = .ok (.getfield 13, 3) := by decide +kernel
theorem dX8_owner_48 : decode cX8_owner 48 = .ok (.aload_n 0, 1) := by decide +kernel
theorem dX8_owner_49 : decode cX8_owner 49 = .ok (.getfield 91, 3) := by decide +kernel
theorem dX8_owner_52 : decode cX8_owner 52 = .ok (.iload_n 2, 1) := by decide +kernel
theorem dX8_owner_53 : decode cX8_owner 53 = .ok (.iastore, 1) := by decide +kernel
theorem dX8_owner_54 : decode cX8_owner 54 = .ok (.aload_n 0, 1) := by decide +kernel
theorem dX8_owner_55 : decode cX8_owner 55 = .ok (.getfield 16, 3) := by decide +kernel
theorem dX8_owner_58 : decode cX8_owner 58 = .ok (.aload_n 0, 1) := by decide +kernel
theorem dX8_owner_59 : decode cX8_owner 59 = .ok (.getfield 91, 3) := by decide +kernel
theorem dX8_owner_62 : decode cX8_owner 62 = .ok (.iconst 0, 1) := by decide +kernel
theorem dX8_owner_63 : decode cX8_owner 63 = .ok (.bastore, 1) := by decide +kernel
theorem dX8_owner_64 : decode cX8_owner 64 = .ok (.aload_n 0, 1) := by decide +kernel
theorem dX8_owner_65 : decode cX8_owner 65 = .ok (.dup, 1) := by decide +kernel
theorem dX8_owner_66 : decode cX8_owner 66 = .ok (.getfield 91, 3) := by decide +kernel
theorem dX8_owner_69 : decode cX8_owner 69 = .ok (.iconst 1, 1) := by decide +kernel
theorem dX8_owner_70 : decode cX8_owner 70 = .ok (.iadd, 1) := by decide +kernel
theorem dX8_owner_71 : decode cX8_owner 71 = .ok (.putfield 91, 3) := by decide +kernel
theorem dX8_owner_74 : decode cX8_owner 74 = .ok (.aload_n 0, 1) := by decide +kernel
theorem dX8_owner_75 : decode cX8_owner 75 = .ok (.getfield 91, 3) := by decide +kernel
theorem dX8_owner_78 : decode cX8_owner 78 = .ok (.iconst 1, 1) := by decide +kernel
theorem dX8_owner_79 : decode cX8_owner 79 = .ok (.isub, 1) := by decide +kernel
theorem dX8_owner_80 : decode cX8_owner 80 = .ok (.ireturn, 1) := by decide +kernel
theorem dX8_as_0 : decode cX8_as 0 = .ok (.aload_n 0, 1) := by decide +kernel
theorem dX8_as_1 : decode cX8_as 1 = .ok (.iload_n 1, 1) := by decide +kernel
theorem dX8_as_2 : decode cX8_as 2 = .ok (.invokevirtual 104, 3) := by decide +kernel
theorem dX8_as_5 : decode cX8_as 5 = .ok (.ifCond .ne 6, 3) := by decide +kernel
theorem dX8_as_8 : decode cX8_as 8 = .ok (.bipush (-101), 2) := by decide +kernel
theorem dX8_as_10 : decode cX8_as 10 = .ok (.ireturn, 1) := by decide +kernel
theorem dX8_as_11 : decode cX8_as 11 = .ok (.iload_n 2, 1) := by decide +kernel
theorem dX8_as_12 : decode cX8_as 12 = .ok (.iconst 0, 1) := by decide +kernel
theorem dX8_as_13 : decode cX8_as 13 = .ok (.iconst 4, 1) := by decide +kernel
theorem dX8_as_14 : decode cX8_as 14 = .ok (.invokestatic 94, 3) := by decide +kernel
theorem dX8_as_17 : decode cX8_as 17 = .ok (.ifCond .ne 6, 3) := by decide +kernel
theorem dX8_as_20 : decode cX8_as 20 = .ok (.bipush (-102), 2) := by decide +kernel
theorem dX8_as_22 : decode cX8_as 22 = .ok (.ireturn, 1) := by decide +kernel
theorem dX8_as_23 : decode cX8_as 23 = .ok (.iload_n 2, 1) := by decide +kernel
theorem dX8_as_24 : decode cX8_as 24 = .ok (.ifCond .eq 28, 3) := by decide +kernel
theorem dX8_as_27 : decode cX8_as 27 = .ok (.aload_n 0, 1) := by decide +kernel
theorem dX8_as_28 : decode cX8_as 28 = .ok (.getfield 7, 3) := by decide +kernel
theorem dX8_as_31 : decode cX8_as 31 = .ok (.iload_n 1, 1) := by decide +kernel
theorem dX8_as_32 : decode cX8_as 32 = .ok (.iaload, 1) := by decide +kernel
theorem dX8_as_33 : decode cX8_as 33 = .ok (.iload_n 2, 1) := by decide +kernel
theorem dX8_as_34 : decode cX8_as 34 = .ok (.if_icmp .eq 18, 3) := by decide +kernel
theorem dX8_as_37 : decode cX8_as 37 = .ok (.iload_n 2, 1) := by decide +kernel
theorem dX8_as_38 : decode cX8_as 38 = .ok (.iconst 1, 1) := by decide +kernel
theorem dX8_as_39 : decode cX8_as 39 = .ok (.if_icmp .ne 17, 3) := by decide +kernel
theorem dX8_as_42 : decode cX8_as 42 = .ok (.aload_n 0, 1) := by decide +kernel
theorem dX8_as_43 : decode cX8_as 43 = .ok (.getfield 7, 3) := by decide +kernel
theorem dX8_as_46 : decode cX8_as 46 = .ok (.iload_n 1, 1) := by decide +kernel
theorem dX8_as_47 : decode cX8_as 47 = .ok (.iaload, 1) := by decide +kernel
theorem dX8_as_48 : decode cX8_as 48 = .ok (.iconst 4, 1) := by decide +kernel
theorem dX8_as_49 : decode cX8_as 49 = .ok (.if_icmp .ne 7, 3) := by decide +kernel
theorem dX8_as_52 : decode cX8_as 52 = .ok (.iload_n 1, 1) := by decide +kernel
theorem dX8_as_53 : decode cX8_as 53 = .ok (.goto 4, 3) := by decide +kernel
theorem dX8_as_56 : decode cX8_as 56 = .ok (.iconst (-1), 1) := by decide +kernel
theorem dX8_as_57 : decode cX8_as 57 = .ok (.ireturn, 1) := by decide +kernel
theorem dX8_shopsOf_0 : decode cX8_shopsOf 0 = .ok (.iconst 0, 1) := by decide +kernel
theorem dX8_shopsOf_1 : decode cX8_shopsOf 1 = .ok (.istore_n 2, 1) := by decide +kernel
theorem dX8_shopsOf_2 : decode cX8_shopsOf 2 = .ok (.iconst 0, 1) := by decide +kernel
theorem dX8_shopsOf_3 : decode cX8_shopsOf 3 = .ok (.istore_n 3, 1) := by decide +kernel
theorem dX8_shopsOf_4 : decode cX8_shopsOf 4 = .ok (.iload_n 3, 1) := by decide +kernel
theorem dX8_shopsOf_5 : decode cX8_shopsOf 5 = .ok (.aload_n 0, 1) := by decide +kernel
theorem dX8_shopsOf_6 : decode cX8_shopsOf 6 = .ok (.getfield 98, 3) := by decide +kernel
theorem dX8_shopsOf_9 : decode cX8_shopsOf 9 = .ok (.if_icmp .ge 27, 3) := by decide +kernel
theorem dX8_shopsOf_12 : decode cX8_shopsOf 12 = .ok (.iload_n 2, 1) := by decide +kernel
theorem dX8_shopsOf_13 : decode cX8_shopsOf 13 = .ok (.aload_n 0, 1) := by decide +kernel
theorem dX8_shopsOf_14 : decode cX8_shopsOf 14 = .ok (.getfield 20, 3) := by decide +kernel
theorem dX8_shopsOf_17 : decode cX8_shopsOf 17 = .ok (.iload_n 3, 1) := by decide +kernel
theorem dX8_shopsOf_18 : decode cX8_shopsOf 18 = .ok (.iaload, 1) := by decide +kernel
theorem dX8_shopsOf_19 : decode cX8_shopsOf 19 = .ok (.iload_n 1, 1) := by decide +kernel
theorem dX8_shopsOf_20 : decode cX8_shopsOf 20 = .ok (.if_icmp .ne 7, 3) := by decide +kernel
theorem dX8_shopsOf_23 : decode cX8_shopsOf 23 = .ok (.iconst 1, 1) := by decide +kernel
theorem dX8_shopsOf_24 : decode cX8_shopsOf 24 = .ok (.goto 4, 3) := by decide +kernel
theorem dX8_shopsOf_27 : decode cX8_shopsOf 27 = .ok (.iconst 0, 1) := by decide +kernel
theorem dX8_shopsOf_28 : decode cX8_shopsOf 28 = .ok (.iadd, 1) := by decide +kernel
theorem dX8_shopsOf_29 : decode cX8_shopsOf 29 = .ok (.istore_n 2, 1) := by decide +kernel
theorem dX8_shopsOf_30 : decode cX8_shopsOf 30 = .ok (.iinc 3 1, 3) := by decide +kernel
theorem dX8_shopsOf_33 : decode cX8_shopsOf 33 = .ok (.goto (-29), 3) := by decide +kernel
theorem dX8_shopsOf_36 : decode cX8_shopsOf 36 = .ok (.iload_n 2, 1) := by decide +kernel
theorem dX8_shopsOf_37 : decode cX8_shopsOf 37 = .ok (.ireturn, 1) := by decide +kernel
theorem dX8_shop_0 : decode cX8_shop 0 = .ok (.aload_n 0, 1) := by decide +kernel
theorem dX8_shop_1 : decode cX8_shop 1 = .ok (.iload_n 1, 1) := by decide +kernel
theorem dX8_shop_2 : decode cX8_shop 2 = .ok (.invokevirtual 104, 3) := by decide +kernel
theorem dX8_shop_5 : decode cX8_shop 5 = .ok (.ifCond .ne 6, 3) := by decide +kernel
theorem dX8_shop_8 : decode cX8_shop 8 = .ok (.bipush (-101), 2) := by decide +kernel
theorem dX8_shop_10 : decode cX8_shop 10 = .ok (.ireturn, 1) := by decide +kernel
theorem dX8_shop_11 : decode cX8_shop 11 = .ok (.iload_n 2, 1) := by decide +kernel
theorem dX8_shop_12 : decode cX8_shop 12 = .ok (.iconst 0, 1) := by decide +kernel
theorem dX8_shop_13 : decode cX8_shop 13 = .ok (.bipush 9, 2) := by decide +kernel
theorem dX8_shop_15 : decode cX8_shop 15 = .ok (.invokestatic 94, 3) := by decide +kernel
theorem dX8_shop_18 : decode cX8_shop 18 = .ok (.ifCond .eq 24, 3) := by decide +kernel
theorem dX8_shop_21 : decode cX8_shop 21 = .ok (.iload_n 3, 1) := by decide +kernel
theorem dX8_shop_22 : decode cX8_shop 22 = .ok (.iconst 0, 1) := by decide +kernel
theorem dX8_shop_23 : decode cX8_shop 23 = .ok (.bipush 9, 2) := by decide +kernel
theorem dX8_shop_25 : decode cX8_shop 25 = .ok (.invokestatic 94, 3) := by decide +kernel
theorem dX8_shop_28 : decode cX8_shop 28 = .ok (.ifCond .eq 14, 3) := by decide +kernel
theorem dX8_shop_31 : decode cX8_shop 31 = .ok (.iload 4, 2) := by decide +kernel
theorem dX8_shop_33 : decode cX8_shop 33 = .ok (.iconst 0, 1) := by decide +kernel
theorem dX8_shop_34 : decode cX8_shop 34 = .ok (.bipush 9, 2) := by decide +kernel
theorem dX8_shop_36 : decode cX8_shop 36 = .ok (.invokestatic 94, 3) := by decide +kernel
theorem dX8_shop_39 : decode cX8_shop 39 = .ok (.ifCond .ne 6, 3) := by decide +kernel
theorem dX8_shop_42 : decode cX8_shop 42 = .ok (.bipush (-102), 2) := by decide +kernel
theorem dX8_shop_44 : decode cX8_shop 44 = .ok (.ireturn, 1) := by decide +kernel
theorem dX8_shop_45 : decode cX8_shop 45 = .ok (.aload_n 0, 1) := by decide +kernel
theorem dX8_shop_46 : decode cX8_shop 46 = .ok (.getfield 98, 3) := by decide +kernel
theorem dX8_shop_49 : decode cX8_shop 49 = .ok (.bipush 6, 2) := by decide +kernel
theorem dX8_shop_51 : decode cX8_shop 51 = .ok (.if_icmp .eq 12, 3) := by decide +kernel
theorem dX8_shop_54 : decode cX8_shop 54 = .ok (.aload_n 0, 1) := by decide +kernel
theorem dX8_shop_55 : decode cX8_shop 55 = .ok (.iload_n 1, 1) := by decide +kernel
theorem dX8_shop_56 : decode cX8_shop 56 = .ok (.invokevirtual 108, 3) := by decide +kernel
theorem dX8_shop_59 : decode cX8_shop 59 = .ok (.iconst 3, 1) := by decide +kernel
theorem dX8_shop_60 : decode cX8_shop 60 = .ok (.if_icmp .ne 6, 3) := by decide +kernel
theorem dX8_shop_63 : decode cX8_shop 63 = .ok (.bipush (-104), 2) := by decide +kernel
theorem dX8_shop_65 : decode cX8_shop 65 = .ok (.ireturn, 1) := by decide +kernel
theorem dX8_shop_66 : decode cX8_shop 66 = .ok (.aload_n 0, 1) := by decide +kernel
theorem dX8_shop_67 : decode cX8_shop 67 = .ok (.getfield 20, 3) := by decide +kernel
theorem dX8_shop_70 : decode cX8_shop 70 = .ok (.aload_n 0, 1) := by decide +kernel
theorem dX8_shop_71 : decode cX8_shop 71 = .ok (.getfield 98, 3) := by decide +kernel
theorem dX8_shop_74 : decode cX8_shop 74 = .ok (.iload_n 1, 1) := by decide +kernel
theorem dX8_shop_75 : decode cX8_shop 75 = .ok (.iastore, 1) := by decide +kernel
theorem dX8_shop_76 : decode cX8_shop 76 = .ok (.aload_n 0, 1) := by decide +kernel
theorem dX8_shop_77 : decode cX8_shop 77 = .ok (.getfield 23, 3) := by decide +kernel
theorem dX8_shop_80 : decode cX8_shop 80 = .ok (.aload_n 0, 1) := by decide +kernel
theorem dX8_shop_81 : decode cX8_shop 81 = .ok (.getfield 98, 3) := by decide +kernel
theorem dX8_shop_84 : decode cX8_shop 84 = .ok (.iload_n 2, 1) := by decide +kernel
theorem dX8_shop_85 : decode cX8_shop 85 = .ok (.iastore, 1) := by decide +kernel
theorem dX8_shop_86 : decode cX8_shop 86 = .ok (.aload_n 0, 1) := by decide +kernel
theorem dX8_shop_87 : decode cX8_shop 87 = .ok (.getfield 26, 3) := by decide +kernel
theorem dX8_shop_90 : decode cX8_shop 90 = .ok (.aload_n 0, 1) := by decide +kernel
theorem dX8_shop_91 : decode cX8_shop 91 = .ok (.getfield 98, 3) := by decide +kernel
theorem dX8_shop_94 : decode cX8_shop 94 = .ok (.iload_n 3, 1) := by decide +kernel
theorem dX8_shop_95 : decode cX8_shop 95 = .ok (.iastore, 1) := by decide +kernel
theorem dX8_shop_96 : decode cX8_shop 96 = .ok (.aload_n 0, 1) := by decide +kernel
theorem dX8_shop_97 : decode cX8_shop 97 = .ok (.getfield 29, 3) := by decide +kernel
theorem dX8_shop_100 : decode cX8_shop 100 = .ok (.aload_n 0, 1) := by decide +kernel
theorem dX8_shop_101 : decode cX8_shop 101 = .ok (.getfield 98, 3) := by decide +kernel
theorem dX8_shop_104 : decode cX8_shop 104 = .ok (.iload 4, 2) := by decide +kernel
theorem dX8_shop_106 : decode cX8_shop 106 = .ok (.iastore, 1) := by decide +kernel
theorem dX8_shop_107 : decode cX8_shop 107 = .ok (.aload_n 0, 1) := by decide +kernel
theorem dX8_shop_108 : decode cX8_shop 108 = .ok (.dup, 1) := by decide +kernel
theorem dX8_shop_109 : decode cX8_shop 109 = .ok (.getfield 98, 3) := by decide +kernel
theorem dX8_shop_112 : decode cX8_shop 112 = .ok (.iconst 1, 1) := by decide +kernel
theorem dX8_shop_113 : decode cX8_shop 113 = .ok (.iadd, 1) := by decide +kernel
theorem dX8_shop_114 : decode cX8_shop 114 = .ok (.putfield 98, 3) := by decide +kernel
theorem dX8_shop_117 : decode cX8_shop 117 = .ok (.aload_n 0, 1) := by decide +kernel
theorem dX8_shop_118 : decode cX8_shop 118 = .ok (.getfield 98, 3) := by decide +kernel
theorem dX8_shop_121 : decode cX8_shop 121 = .ok (.iconst 1, 1) := by decide +kernel
theorem dX8_shop_122 : decode cX8_shop 122 = .ok (.isub, 1) := by decide +kernel
theorem dX8_shop_123 : decode cX8_shop 123 = .ok (.ireturn, 1) := by decide +kernel
theorem dX8_isOpen_0 : decode cX8_isOpen 0 = .ok (.iload_n 1, 1) := by decide +kernel
theorem dX8_isOpen_1 : decode cX8_isOpen 1 = .ok (.aload_n 0, 1) := by decide +kernel
theorem dX8_isOpen_2 : decode cX8_isOpen 2 = .ok (.getfield 54, 3) := by decide +kernel
theorem dX8_isOpen_5 : decode cX8_isOpen 5 = .ok (.if_icmp .eq 36, 3) := by decide +kernel
theorem dX8_isOpen_8 : decode cX8_isOpen 8 = .ok (.aload_n 0, 1) := by decide +kernel
theorem dX8_isOpen_9 : decode cX8_isOpen 9 = .ok (.getfield 7, 3) := by decide +kernel
theorem dX8_isOpen_12 : decode cX8_isOpen 12 = .ok (.aload_n 0, 1) := by decide +kernel
theorem dX8_isOpen_13 : decode cX8_isOpen 13 = .ok (.getfield 20, 3) := by decide +kernel
theorem dX8_isOpen_16 : decode cX8_isOpen 16 = .ok (.iload_n 1, 1) := by decide +kernel
theorem dX8_isOpen_17 : decode cX8_isOpen 17 = .ok (.iaload, 1) := by decide +kernel
theorem dX8_isOpen_18 : decode cX8_isOpen 18 = .ok (.iaload, 1) := by decide +kernel
theorem dX8_isOpen_19 : decode cX8_isOpen 19 = .ok (.iconst 4, 1) := by decide +kernel
theorem dX8_isOpen_20 : decode cX8_isOpen 20 = .ok (.if_icmp .ne 17, 3) := by decide +kernel
theorem dX8_isOpen_23 : decode cX8_isOpen 23 = .ok (.aload_n 0, 1) := by decide +kernel
theorem dX8_isOpen_24 : decode cX8_isOpen 24 = .ok (.getfield 16, 3) := by decide +kernel
theorem dX8_isOpen_27 : decode cX8_isOpen 27 = .ok (.aload_n 0, 1) := by decide +kernel
theorem dX8_isOpen_28 : decode cX8_isOpen 28 = .ok (.getfield 20, 3) := by decide +kernel
theorem dX8_isOpen_31 : decode cX8_isOpen 31 = .ok (.iload_n 1, 1) := by decide +kernel
theorem dX8_isOpen_32 : decode cX8_isOpen 32 = .ok (.iaload, 1) := by decide +kernel
theorem dX8_isOpen_33 : decode cX8_isOpen 33 = .ok (.baload, 1) := by decide +kernel
theorem dX8_isOpen_34 : decode cX8_isOpen 34 = .ok (.ifCond .eq 7, 3) := by decide +kernel
theorem dX8_isOpen_37 : decode cX8_isOpen 37 = .ok (.iconst 1, 1) := by decide +kernel
theorem dX8_isOpen_38 : decode cX8_isOpen 38 = .ok (.goto 4, 3) := by decide +kernel
theorem dX8_isOpen_41 : decode cX8_isOpen 41 = .ok (.iconst 0, 1) := by decide +kernel
theorem dX8_isOpen_42 : decode cX8_isOpen 42 = .ok (.ireturn, 1) := by decide +kernel
theorem dX8_told_0 : decode cX8_told 0 = .ok (.aload_n 0, 1) := by decide +kernel
theorem dX8_told_1 : decode cX8_told 1 = .ok (.getfield 32, 3) := by decide +kernel
theorem dX8_told_4 : decode cX8_told 4 = .ok (.bipush 6, 2) := by decide +kernel
theorem dX8_told_6 : decode cX8_told 6 = .ok (.iload_n 1, 1) := by decide +kernel
theorem dX8_told_7 : decode cX8_told 7 = .ok (.imul, 1) := by decide +kernel
theorem dX8_told_8 : decode cX8_told 8 = .ok (.iload_n 2, 1) := by decide +kernel
theorem dX8_told_9 : decode cX8_told 9 = .ok (.iadd, 1) := by decide +kernel
theorem dX8_told_10 : decode cX8_told 10 = .ok (.iaload, 1) := by decide +kernel
theorem dX8_told_11 : decode cX8_told 11 = .ok (.ireturn, 1) := by decide +kernel
theorem dX8_isTo_0 : decode cX8_isTo 0 = .ok (.aload_n 0, 1) := by decide +kernel
theorem dX8_isTo_1 : decode cX8_isTo 1 = .ok (.iload_n 1, 1) := by decide +kernel
theorem dX8_isTo_2 : decode cX8_isTo 2 = .ok (.iconst 2, 1) := by decide +kernel
theorem dX8_isTo_3 : decode cX8_isTo 3 = .ok (.invokevirtual 112, 3) := by decide +kernel
theorem dX8_isTo_6 : decode cX8_isTo 6 = .ok (.aload_n 0, 1) := by decide +kernel
theorem dX8_isTo_7 : decode cX8_isTo 7 = .ok (.getfield 23, 3) := by decide +kernel
theorem dX8_isTo_10 : decode cX8_isTo 10 = .ok (.iload_n 2, 1) := by decide +kernel
theorem dX8_isTo_11 : decode cX8_isTo 11 = .ok (.iaload, 1) := by decide +kernel
theorem dX8_isTo_12 : decode cX8_isTo 12 = .ok (.aload_n 0, 1) := by decide +kernel
theorem dX8_isTo_13 : decode cX8_isTo 13 = .ok (.iload_n 1, 1) := by decide +kernel
theorem dX8_isTo_14 : decode cX8_isTo 14 = .ok (.iconst 0, 1) := by decide +kernel
theorem dX8_isTo_15 : decode cX8_isTo 15 = .ok (.invokevirtual 112, 3) := by decide +kernel
theorem dX8_isTo_18 : decode cX8_isTo 18 = .ok (.isub, 1) := by decide +kernel
theorem dX8_isTo_19 : decode cX8_isTo 19 = .ok (.invokestatic 116, 3) := by decide +kernel
theorem dX8_isTo_22 : decode cX8_isTo 22 = .ok (.imul, 1) := by decide +kernel
theorem dX8_isTo_23 : decode cX8_isTo 23 = .ok (.istore_n 3, 1) := by decide +kernel
theorem dX8_isTo_24 : decode cX8_isTo 24 = .ok (.aload_n 0, 1) := by decide +kernel
theorem dX8_isTo_25 : decode cX8_isTo 25 = .ok (.getfield 29, 3) := by decide +kernel
theorem dX8_isTo_28 : decode cX8_isTo 28 = .ok (.iload_n 2, 1) := by decide +kernel
theorem dX8_isTo_29 : decode cX8_isTo 29 = .ok (.iaload, 1) := by decide +kernel
theorem dX8_isTo_30 : decode cX8_isTo 30 = .ok (.iload_n 3, 1) := by decide +kernel
theorem dX8_isTo_31 : decode cX8_isTo 31 = .ok (.iadd, 1) := by decide +kernel
theorem dX8_isTo_32 : decode cX8_isTo 32 = .ok (.aload_n 0, 1) := by decide +kernel
theorem dX8_isTo_33 : decode cX8_isTo 33 = .ok (.iload_n 1, 1) := by decide +kernel
theorem dX8_isTo_34 : decode cX8_isTo 34 = .ok (.iconst 4, 1) := by decide +kernel
theorem dX8_isTo_35 : decode cX8_isTo 35 = .ok (.invokevirtual 112, 3) := by decide +kernel
theorem dX8_isTo_38 : decode cX8_isTo 38 = .ok (.iload_n 2, 1) := by decide +kernel
theorem dX8_isTo_39 : decode cX8_isTo 39 = .ok (.if_icmp .ne 12, 3) := by decide +kernel
theorem dX8_isTo_42 : decode cX8_isTo 42 = .ok (.aload_n 0, 1) := by decide +kernel
theorem dX8_isTo_43 : decode cX8_isTo 43 = .ok (.iload_n 1, 1) := by decide +kernel
theorem dX8_isTo_44 : decode cX8_isTo 44 = .ok (.iconst 5, 1) := by decide +kernel
theorem dX8_isTo_45 : decode cX8_isTo 45 = .ok (.invokevirtual 112, 3) := by decide +kernel
theorem dX8_isTo_48 : decode cX8_isTo 48 = .ok (.goto 4, 3) := by decide +kernel
theorem dX8_isTo_51 : decode cX8_isTo 51 = .ok (.iconst 0, 1) := by decide +kernel
theorem dX8_isTo_52 : decode cX8_isTo 52 = .ok (.isub, 1) := by decide +kernel
theorem dX8_isTo_53 : decode cX8_isTo 53 = .ok (.ireturn, 1) := by decide +kernel
theorem dX8_goesTo_0 : decode cX8_goesTo 0 = .ok (.iconst (-1), 1) := by decide +kernel
theorem dX8_goesTo_1 : decode cX8_goesTo 1 = .ok (.istore_n 2, 1) := by decide +kernel
theorem dX8_goesTo_2 : decode cX8_goesTo 2 = .ok (.iconst 0, 1) := by decide +kernel
theorem dX8_goesTo_3 : decode cX8_goesTo 3 = .ok (.istore_n 3, 1) := by decide +kernel
theorem dX8_goesTo_4 : decode cX8_goesTo 4 = .ok (.iload_n 3, 1) := by decide +kernel
theorem dX8_goesTo_5 : decode cX8_goesTo 5 = .ok (.aload_n 0, 1) := by decide +kernel
theorem dX8_goesTo_6 : decode cX8_goesTo 6 = .ok (.getfield 98, 3) := by decide +kernel
theorem dX8_goesTo_9 : decode cX8_goesTo 9 = .ok (.if_icmp .ge 43, 3) := by decide +kernel
theorem dX8_goesTo_12 : decode cX8_goesTo 12 = .ok (.aload_n 0, 1) := by decide +kernel
theorem dX8_goesTo_13 : decode cX8_goesTo 13 = .ok (.iload_n 3, 1) := by decide +kernel
theorem dX8_goesTo_14 : decode cX8_goesTo 14 = .ok (.invokevirtual 119, 3) := by decide +kernel
theorem dX8_goesTo_17 : decode cX8_goesTo 17 = .ok (.ifCond .eq 27, 3) := by decide +kernel
theorem dX8_goesTo_20 : decode cX8_goesTo 20 = .ok (.iload_n 2, 1) := by decide +kernel
theorem dX8_goesTo_21 : decode cX8_goesTo 21 = .ok (.iconst (-1), 1) := by decide +kernel
theorem dX8_goesTo_22 : decode cX8_goesTo 22 = .ok (.if_icmp .eq 18, 3) := by decide +kernel
theorem dX8_goesTo_25 : decode cX8_goesTo 25 = .ok (.aload_n 0, 1) := by decide +kernel
theorem dX8_goesTo_26 : decode cX8_goesTo 26 = .ok (.iload_n 1, 1) := by decide +kernel
theorem dX8_goesTo_27 : decode cX8_goesTo 27 = .ok (.iload_n 3, 1) := by decide +kernel
theorem dX8_goesTo_28 : decode cX8_goesTo 28 = .ok (.invokevirtual 122, 3) := by decide +kernel
theorem dX8_goesTo_31 : decode cX8_goesTo 31 = .ok (.aload_n 0, 1) := by decide +kernel
theorem dX8_goesTo_32 : decode cX8_goesTo 32 = .ok (.iload_n 1, 1) := by decide +kernel
theorem dX8_goesTo_33 : decode cX8_goesTo 33 = .ok (.iload_n 2, 1) := by decide +kernel
theorem dX8_goesTo_34 : decode cX8_goesTo 34 = .ok (.invokevirtual 122, 3) := by decide +kernel
theorem dX8_goesTo_37 : decode cX8_goesTo 37 = .ok (.if_icmp .ge 7, 3) := by decide +kernel
theorem dX8_goesTo_40 : decode cX8_goesTo 40 = .ok (.iload_n 3, 1) := by decide +kernel
theorem dX8_goesTo_41 : decode cX8_goesTo 41 = .ok (.goto 4, 3) := by decide +kernel
theorem dX8_goesTo_44 : decode cX8_goesTo 44 = .ok (.iload_n 2, 1) := by decide +kernel
theorem dX8_goesTo_45 : decode cX8_goesTo 45 = .ok (.istore_n 2, 1) := by decide +kernel
theorem dX8_goesTo_46 : decode cX8_goesTo 46 = .ok (.iinc 3 1, 3) := by decide +kernel
theorem dX8_goesTo_49 : decode cX8_goesTo 49 = .ok (.goto (-45), 3) := by decide +kernel
theorem dX8_goesTo_52 : decode cX8_goesTo 52 = .ok (.iload_n 2, 1) := by decide +kernel
theorem dX8_goesTo_53 : decode cX8_goesTo 53 = .ok (.iconst (-1), 1) := by decide +kernel
theorem dX8_goesTo_54 : decode cX8_goesTo 54 = .ok (.if_icmp .eq 18, 3) := by decide +kernel
theorem dX8_goesTo_57 : decode cX8_goesTo 57 = .ok (.aload_n 0, 1) := by decide +kernel
theorem dX8_goesTo_58 : decode cX8_goesTo 58 = .ok (.iload_n 1, 1) := by decide +kernel
theorem dX8_goesTo_59 : decode cX8_goesTo 59 = .ok (.iload_n 2, 1) := by decide +kernel
theorem dX8_goesTo_60 : decode cX8_goesTo 60 = .ok (.invokevirtual 122, 3) := by decide +kernel
theorem dX8_goesTo_63 : decode cX8_goesTo 63 = .ok (.aload_n 0, 1) := by decide +kernel
theorem dX8_goesTo_64 : decode cX8_goesTo 64 = .ok (.iload_n 1, 1) := by decide +kernel
theorem dX8_goesTo_65 : decode cX8_goesTo 65 = .ok (.iconst 3, 1) := by decide +kernel
theorem dX8_goesTo_66 : decode cX8_goesTo 66 = .ok (.invokevirtual 112, 3) := by decide +kernel
theorem dX8_goesTo_69 : decode cX8_goesTo 69 = .ok (.if_icmp .le 7, 3) := by decide +kernel
theorem dX8_goesTo_72 : decode cX8_goesTo 72 = .ok (.iconst (-1), 1) := by decide +kernel
theorem dX8_goesTo_73 : decode cX8_goesTo 73 = .ok (.goto 4, 3) := by decide +kernel
theorem dX8_goesTo_76 : decode cX8_goesTo 76 = .ok (.iload_n 2, 1) := by decide +kernel
theorem dX8_goesTo_77 : decode cX8_goesTo 77 = .ok (.ireturn, 1) := by decide +kernel
theorem dX8_spareOf_0 : decode cX8_spareOf 0 = .ok (.aload_n 0, 1) := by decide +kernel
theorem dX8_spareOf_1 : decode cX8_spareOf 1 = .ok (.iload_n 1, 1) := by decide +kernel
theorem dX8_spareOf_2 : decode cX8_spareOf 2 = .ok (.invokevirtual 125, 3) := by decide +kernel
theorem dX8_spareOf_5 : decode cX8_spareOf 5 = .ok (.istore_n 2, 1) := by decide +kernel
theorem dX8_spareOf_6 : decode cX8_spareOf 6 = .ok (.iload_n 2, 1) := by decide +kernel
theorem dX8_spareOf_7 : decode cX8_spareOf 7 = .ok (.iconst (-1), 1) := by decide +kernel
theorem dX8_spareOf_8 : decode cX8_spareOf 8 = .ok (.if_icmp .ne 7, 3) := by decide +kernel
theorem dX8_spareOf_11 : decode cX8_spareOf 11 = .ok (.iconst 0, 1) := by decide +kernel
theorem dX8_spareOf_12 : decode cX8_spareOf 12 = .ok (.goto 16, 3) := by decide +kernel
theorem dX8_spareOf_15 : decode cX8_spareOf 15 = .ok (.aload_n 0, 1) := by decide +kernel
theorem dX8_spareOf_16 : decode cX8_spareOf 16 = .ok (.iload_n 1, 1) := by decide +kernel
theorem dX8_spareOf_17 : decode cX8_spareOf 17 = .ok (.iconst 3, 1) := by decide +kernel
theorem dX8_spareOf_18 : decode cX8_spareOf 18 = .ok (.invokevirtual 112, 3) := by decide +kernel
theorem dX8_spareOf_21 : decode cX8_spareOf 21 = .ok (.aload_n 0, 1) := by decide +kernel
theorem dX8_spareOf_22 : decode cX8_spareOf 22 = .ok (.iload_n 1, 1) := by decide +kernel
theorem dX8_spareOf_23 : decode cX8_spareOf 23 = .ok (.iload_n 2, 1) := by decide +kernel
theorem dX8_spareOf_24 : decode cX8_spareOf 24 = .ok (.invokevirtual 122, 3) := by decide +kernel
theorem dX8_spareOf_27 : decode cX8_spareOf 27 = .ok (.isub, 1) := by decide +kernel
theorem dX8_spareOf_28 : decode cX8_spareOf 28 = .ok (.ireturn, 1) := by decide +kernel
theorem dX8_laySold_0 : decode cX8_laySold 0 = .ok (.iconst 0, 1) := by decide +kernel
theorem dX8_laySold_1 : decode cX8_laySold 1 = .ok (.istore_n 1, 1) := by decide +kernel
theorem dX8_laySold_2 : decode cX8_laySold 2 = .ok (.iload_n 1, 1) := by decide +kernel
theorem dX8_laySold_3 : decode cX8_laySold 3 = .ok (.aload_n 0, 1) := by decide +kernel
theorem dX8_laySold_4 : decode cX8_laySold 4 = .ok (.getfield 98, 3) := by decide +kernel
theorem dX8_laySold_7 : decode cX8_laySold 7 = .ok (.if_icmp .ge 16, 3) := by decide +kernel
theorem dX8_laySold_10 : decode cX8_laySold 10 = .ok (.aload_n 0, 1) := by decide +kernel
theorem dX8_laySold_11 : decode cX8_laySold 11 = .ok (.getfield 58, 3) := by decide +kernel
theorem dX8_laySold_14 : decode cX8_laySold 14 = .ok (.iload_n 1, 1) := by decide +kernel
theorem dX8_laySold_15 : decode cX8_laySold 15 = .ok (.iconst 0, 1) := by decide +kernel
theorem dX8_laySold_16 : decode cX8_laySold 16 = .ok (.iastore, 1) := by decide +kernel
theorem dX8_laySold_17 : decode cX8_laySold 17 = .ok (.iinc 1 1, 3) := by decide +kernel
theorem dX8_laySold_20 : decode cX8_laySold 20 = .ok (.goto (-18), 3) := by decide +kernel
theorem dX8_laySold_23 : decode cX8_laySold 23 = .ok (.iconst 0, 1) := by decide +kernel
theorem dX8_laySold_24 : decode cX8_laySold 24 = .ok (.istore_n 1, 1) := by decide +kernel
theorem dX8_laySold_25 : decode cX8_laySold 25 = .ok (.iconst 0, 1) := by decide +kernel
theorem dX8_laySold_26 : decode cX8_laySold 26 = .ok (.istore_n 2, 1) := by decide +kernel
theorem dX8_laySold_27 : decode cX8_laySold 27 = .ok (.iload_n 2, 1) := by decide +kernel
theorem dX8_laySold_28 : decode cX8_laySold 28 = .ok (.aload_n 0, 1) := by decide +kernel
theorem dX8_laySold_29 : decode cX8_laySold 29 = .ok (.getfield 101, 3) := by decide +kernel
theorem dX8_laySold_32 : decode cX8_laySold 32 = .ok (.if_icmp .ge 44, 3) := by decide +kernel
theorem dX8_laySold_35 : decode cX8_laySold 35 = .ok (.aload_n 0, 1) := by decide +kernel
theorem dX8_laySold_36 : decode cX8_laySold 36 = .ok (.iload_n 2, 1) := by decide +kernel
theorem dX8_laySold_37 : decode cX8_laySold 37 = .ok (.invokevirtual 125, 3) := by decide +kernel
theorem dX8_laySold_40 : decode cX8_laySold 40 = .ok (.istore_n 3, 1) := by decide +kernel
theorem dX8_laySold_41 : decode cX8_laySold 41 = .ok (.iload_n 3, 1) := by decide +kernel
theorem dX8_laySold_42 : decode cX8_laySold 42 = .ok (.iconst (-1), 1) := by decide +kernel
theorem dX8_laySold_43 : decode cX8_laySold 43 = .ok (.if_icmp .eq 27, 3) := by decide +kernel
theorem dX8_laySold_46 : decode cX8_laySold 46 = .ok (.aload_n 0, 1) := by decide +kernel
theorem dX8_laySold_47 : decode cX8_laySold 47 = .ok (.getfield 58, 3) := by decide +kernel
theorem dX8_laySold_50 : decode cX8_laySold 50 = .ok (.iload_n 3, 1) := by decide +kernel
theorem dX8_laySold_51 : decode cX8_laySold 51 = .ok (.dup2, 1) := by decide +kernel
theorem dX8_laySold_52 : decode cX8_laySold 52 = .ok (.iaload, 1) := by decide +kernel
theorem dX8_laySold_53 : decode cX8_laySold 53 = .ok (.aload_n 0, 1) := by decide +kernel
theorem dX8_laySold_54 : decode cX8_laySold 54 = .ok (.iload_n 2, 1) := by decide +kernel
theorem dX8_laySold_55 : decode cX8_laySold 55 = .ok (.iconst 1, 1) := by decide +kernel
theorem dX8_laySold_56 : decode cX8_laySold 56 = .ok (.invokevirtual 112, 3) := by decide +kernel
theorem dX8_laySold_59 : decode cX8_laySold 59 = .ok (.iadd, 1) := by decide +kernel
theorem dX8_laySold_60 : decode cX8_laySold 60 = .ok (.iastore, 1) := by decide +kernel
theorem dX8_laySold_61 : decode cX8_laySold 61 = .ok (.iload_n 1, 1) := by decide +kernel
theorem dX8_laySold_62 : decode cX8_laySold 62 = .ok (.aload_n 0, 1) := by decide +kernel
theorem dX8_laySold_63 : decode cX8_laySold 63 = .ok (.iload_n 2, 1) := by decide +kernel
theorem dX8_laySold_64 : decode cX8_laySold 64 = .ok (.iconst 1, 1) := by decide +kernel
theorem dX8_laySold_65 : decode cX8_laySold 65 = .ok (.invokevirtual 112, 3) := by decide +kernel
theorem dX8_laySold_68 : decode cX8_laySold 68 = .ok (.iadd, 1) := by decide +kernel
theorem dX8_laySold_69 : decode cX8_laySold 69 = .ok (.istore_n 1, 1) := by decide +kernel
theorem dX8_laySold_70 : decode cX8_laySold 70 = .ok (.iinc 2 1, 3) := by decide +kernel
theorem dX8_laySold_73 : decode cX8_laySold 73 = .ok (.goto (-46), 3) := by decide +kernel
theorem dX8_laySold_76 : decode cX8_laySold 76 = .ok (.iload_n 1, 1) := by decide +kernel
theorem dX8_laySold_77 : decode cX8_laySold 77 = .ok (.ireturn, 1) := by decide +kernel
theorem dX8_profitOf_0 : decode cX8_profitOf 0 = .ok (.aload_n 0, 1) := by decide +kernel
theorem dX8_profitOf_1 : decode cX8_profitOf 1 = .ok (.invokevirtual 128, 3) := by decide +kernel
theorem dX8_profitOf_4 : decode cX8_profitOf 4 = .ok (.pop, 1) := by decide +kernel
theorem dX8_profitOf_5 : decode cX8_profitOf 5 = .ok (.iconst 0, 1) := by decide +kernel
theorem dX8_profitOf_6 : decode cX8_profitOf 6 = .ok (.istore_n 2, 1) := by decide +kernel
theorem dX8_profitOf_7 : decode cX8_profitOf 7 = .ok (.iconst 0, 1) := by decide +kernel
theorem dX8_profitOf_8 : decode cX8_profitOf 8 = .ok (.istore_n 3, 1) := by decide +kernel
theorem dX8_profitOf_9 : decode cX8_profitOf 9 = .ok (.iload_n 3, 1) := by decide +kernel
theorem dX8_profitOf_10 : decode cX8_profitOf 10 = .ok (.aload_n 0, 1) := by decide +kernel
theorem dX8_profitOf_11 : decode cX8_profitOf 11 = .ok (.getfield 98, 3) := by decide +kernel
theorem dX8_profitOf_14 : decode cX8_profitOf 14 = .ok (.if_icmp .ge 80, 3) := by decide +kernel
theorem dX8_profitOf_17 : decode cX8_profitOf 17 = .ok (.aload_n 0, 1) := by decide +kernel
theorem dX8_profitOf_18 : decode cX8_profitOf 18 = .ok (.getfield 26, 3) := by decide +kernel
theorem dX8_profitOf_21 : decode cX8_profitOf 21 = .ok (.iload_n 3, 1) := by decide +kernel
theorem dX8_profitOf_22 : decode cX8_profitOf 22 = .ok (.iaload, 1) := by decide +kernel
theorem dX8_profitOf_23 : decode cX8_profitOf 23 = .ok (.aload_n 0, 1) := by decide +kernel
theorem dX8_profitOf_24 : decode cX8_profitOf 24 = .ok (.getfield 7, 3) := by decide +kernel
theorem dX8_profitOf_27 : decode cX8_profitOf 27 = .ok (.iload_n 1, 1) := by decide +kernel
theorem dX8_profitOf_28 : decode cX8_profitOf 28 = .ok (.iaload, 1) := by decide +kernel
theorem dX8_profitOf_29 : decode cX8_profitOf 29 = .ok (.iconst 3, 1) := by decide +kernel
theorem dX8_profitOf_30 : decode cX8_profitOf 30 = .ok (.if_icmp .ne 12, 3) := by decide +kernel
theorem dX8_profitOf_33 : decode cX8_profitOf 33 = .ok (.aload_n 0, 1) := by decide +kernel
theorem dX8_profitOf_34 : decode cX8_profitOf 34 = .ok (.getfield 13, 3) := by decide +kernel
theorem dX8_profitOf_37 : decode cX8_profitOf 37 = .ok (.iload_n 1, 1) := by decide +kernel
theorem dX8_profitOf_38 : decode cX8_profitOf 38 = .ok (.iaload, 1) := by decide +kernel
theorem dX8_profitOf_39 : decode cX8_profitOf 39 = .ok (.goto 4, 3) := by decide +kernel
theorem dX8_profitOf_42 : decode cX8_profitOf 42 = .ok (.iconst 0, 1) := by decide +kernel
theorem dX8_profitOf_43 : decode cX8_profitOf 43 = .ok (.isub, 1) := by decide +kernel
theorem dX8_profitOf_44 : decode cX8_profitOf 44 = .ok (.istore 4, 2) := by decide +kernel
theorem dX8_profitOf_46 : decode cX8_profitOf 46 = .ok (.iload_n 2, 1) := by decide +kernel
theorem dX8_profitOf_47 : decode cX8_profitOf 47 = .ok (.aload_n 0, 1) := by decide +kernel
theorem dX8_profitOf_48 : decode cX8_profitOf 48 = .ok (.getfield 20, 3) := by decide +kernel
theorem dX8_profitOf_51 : decode cX8_profitOf 51 = .ok (.iload_n 3, 1) := by decide +kernel
theorem dX8_profitOf_52 : decode cX8_profitOf 52 = .ok (.iaload, 1) := by decide +kernel
theorem dX8_profitOf_53 : decode cX8_profitOf 53 = .ok (.iload_n 1, 1) := by decide +kernel
theorem dX8_profitOf_54 : decode cX8_profitOf 54 = .ok (.if_icmp .ne 31, 3) := by decide +kernel
theorem dX8_profitOf_57 : decode cX8_profitOf 57 = .ok (.aload_n 0, 1) := by decide +kernel
theorem dX8_profitOf_58 : decode cX8_profitOf 58 = .ok (.getfield 58, 3) := by decide +kernel
theorem dX8_profitOf_61 : decode cX8_profitOf 61 = .ok (.iload_n 3, 1) := by decide +kernel
theorem dX8_profitOf_62 : decode cX8_profitOf 62 = .ok (.iaload, 1) := by decide +kernel
theorem dX8_profitOf_63 : decode cX8_profitOf 63 = .ok (.aload_n 0, 1) := by decide +kernel
theorem dX8_profitOf_64 : decode cX8_profitOf 64 = .ok (.getfield 29, 3) := by decide +kernel
theorem dX8_profitOf_67 : decode cX8_profitOf 67 = .ok (.iload_n 3, 1) := by decide +kernel
theorem dX8_profitOf_68 : decode cX8_profitOf 68 = .ok (.iaload, 1) := by decide +kernel
theorem dX8_profitOf_69 : decode cX8_profitOf 69 = .ok (.iload 4, 2) := by decide +kernel
theorem dX8_profitOf_71 : decode cX8_profitOf 71 = .ok (.ifCond .ge 7, 3) := by decide +kernel
theorem dX8_profitOf_74 : decode cX8_profitOf 74 = .ok (.iconst 0, 1) := by decide +kernel
theorem dX8_profitOf_75 : decode cX8_profitOf 75 = .ok (.goto 5, 3) := by decide +kernel
theorem dX8_profitOf_78 : decode cX8_profitOf 78 = .ok (.iload 4, 2) := by decide +kernel
theorem dX8_profitOf_80 : decode cX8_profitOf 80 = .ok (.isub, 1) := by decide +kernel
theorem dX8_profitOf_81 : decode cX8_profitOf 81 = .ok (.imul, 1) := by decide +kernel
theorem dX8_profitOf_82 : decode cX8_profitOf 82 = .ok (.goto 4, 3) := by decide +kernel
theorem dX8_profitOf_85 : decode cX8_profitOf 85 = .ok (.iconst 0, 1) := by decide +kernel
theorem dX8_profitOf_86 : decode cX8_profitOf 86 = .ok (.iadd, 1) := by decide +kernel
theorem dX8_profitOf_87 : decode cX8_profitOf 87 = .ok (.istore_n 2, 1) := by decide +kernel
theorem dX8_profitOf_88 : decode cX8_profitOf 88 = .ok (.iinc 3 1, 3) := by decide +kernel
theorem dX8_profitOf_91 : decode cX8_profitOf 91 = .ok (.goto (-82), 3) := by decide +kernel
theorem dX8_profitOf_94 : decode cX8_profitOf 94 = .ok (.iload_n 2, 1) := by decide +kernel
theorem dX8_profitOf_95 : decode cX8_profitOf 95 = .ok (.ireturn, 1) := by decide +kernel
theorem dX8_aboutOf_0 : decode cX8_aboutOf 0 = .ok (.iload_n 2, 1) := by decide +kernel
theorem dX8_aboutOf_1 : decode cX8_aboutOf 1 = .ok (.tableswitch 77 0 4 #[35, 42, 49, 56, 63], 35) := by decide +kernel
theorem dX8_aboutOf_36 : decode cX8_aboutOf 36 = .ok (.aload_n 0, 1) := by decide +kernel
theorem dX8_aboutOf_37 : decode cX8_aboutOf 37 = .ok (.getfield 20, 3) := by decide +kernel
theorem dX8_aboutOf_40 : decode cX8_aboutOf 40 = .ok (.iload_n 1, 1) := by decide +kernel
theorem dX8_aboutOf_41 : decode cX8_aboutOf 41 = .ok (.iaload, 1) := by decide +kernel
theorem dX8_aboutOf_42 : decode cX8_aboutOf 42 = .ok (.ireturn, 1) := by decide +kernel
theorem dX8_aboutOf_43 : decode cX8_aboutOf 43 = .ok (.aload_n 0, 1) := by decide +kernel
theorem dX8_aboutOf_44 : decode cX8_aboutOf 44 = .ok (.getfield 23, 3) := by decide +kernel
theorem dX8_aboutOf_47 : decode cX8_aboutOf 47 = .ok (.iload_n 1, 1) := by decide +kernel
theorem dX8_aboutOf_48 : decode cX8_aboutOf 48 = .ok (.iaload, 1) := by decide +kernel
theorem dX8_aboutOf_49 : decode cX8_aboutOf 49 = .ok (.ireturn, 1) := by decide +kernel
theorem dX8_aboutOf_50 : decode cX8_aboutOf 50 = .ok (.aload_n 0, 1) := by decide +kernel
theorem dX8_aboutOf_51 : decode cX8_aboutOf 51 = .ok (.getfield 26, 3) := by decide +kernel
theorem dX8_aboutOf_54 : decode cX8_aboutOf 54 = .ok (.iload_n 1, 1) := by decide +kernel
theorem dX8_aboutOf_55 : decode cX8_aboutOf 55 = .ok (.iaload, 1) := by decide +kernel
theorem dX8_aboutOf_56 : decode cX8_aboutOf 56 = .ok (.ireturn, 1) := by decide +kernel
theorem dX8_aboutOf_57 : decode cX8_aboutOf 57 = .ok (.aload_n 0, 1) := by decide +kernel
theorem dX8_aboutOf_58 : decode cX8_aboutOf 58 = .ok (.getfield 29, 3) := by decide +kernel
theorem dX8_aboutOf_61 : decode cX8_aboutOf 61 = .ok (.iload_n 1, 1) := by decide +kernel
theorem dX8_aboutOf_62 : decode cX8_aboutOf 62 = .ok (.iaload, 1) := by decide +kernel
theorem dX8_aboutOf_63 : decode cX8_aboutOf 63 = .ok (.ireturn, 1) := by decide +kernel
theorem dX8_aboutOf_64 : decode cX8_aboutOf 64 = .ok (.aload_n 0, 1) := by decide +kernel
theorem dX8_aboutOf_65 : decode cX8_aboutOf 65 = .ok (.iload_n 1, 1) := by decide +kernel
theorem dX8_aboutOf_66 : decode cX8_aboutOf 66 = .ok (.invokevirtual 119, 3) := by decide +kernel
theorem dX8_aboutOf_69 : decode cX8_aboutOf 69 = .ok (.ifCond .eq 7, 3) := by decide +kernel
theorem dX8_aboutOf_72 : decode cX8_aboutOf 72 = .ok (.iconst 1, 1) := by decide +kernel
theorem dX8_aboutOf_73 : decode cX8_aboutOf 73 = .ok (.goto 4, 3) := by decide +kernel
theorem dX8_aboutOf_76 : decode cX8_aboutOf 76 = .ok (.iconst 0, 1) := by decide +kernel
theorem dX8_aboutOf_77 : decode cX8_aboutOf 77 = .ok (.ireturn, 1) := by decide +kernel
theorem dX8_aboutOf_78 : decode cX8_aboutOf 78 = .ok (.aload_n 0, 1) := by decide +kernel
theorem dX8_aboutOf_79 : decode cX8_aboutOf 79 = .ok (.invokevirtual 128, 3) := by decide +kernel
theorem dX8_aboutOf_82 : decode cX8_aboutOf 82 = .ok (.pop, 1) := by decide +kernel
theorem dX8_aboutOf_83 : decode cX8_aboutOf 83 = .ok (.aload_n 0, 1) := by decide +kernel
theorem dX8_aboutOf_84 : decode cX8_aboutOf 84 = .ok (.getfield 58, 3) := by decide +kernel
theorem dX8_aboutOf_87 : decode cX8_aboutOf 87 = .ok (.iload_n 1, 1) := by decide +kernel
theorem dX8_aboutOf_88 : decode cX8_aboutOf 88 = .ok (.iaload, 1) := by decide +kernel
theorem dX8_aboutOf_89 : decode cX8_aboutOf 89 = .ok (.ireturn, 1) := by decide +kernel
theorem dX8_about_0 : decode cX8_about 0 = .ok (.aload_n 0, 1) := by decide +kernel
theorem dX8_about_1 : decode cX8_about 1 = .ok (.iload_n 1, 1) := by decide +kernel
theorem dX8_about_2 : decode cX8_about 2 = .ok (.invokevirtual 132, 3) := by decide +kernel
theorem dX8_about_5 : decode cX8_about 5 = .ok (.ifCond .ne 8, 3) := by decide +kernel
theorem dX8_about_8 : decode cX8_about 8 = .ok (.bipush (-101), 2) := by decide +kernel
theorem dX8_about_10 : decode cX8_about 10 = .ok (.goto 23, 3) := by decide +kernel
theorem dX8_about_13 : decode cX8_about 13 = .ok (.iload_n 2, 1) := by decide +kernel
theorem dX8_about_14 : decode cX8_about 14 = .ok (.iconst 0, 1) := by decide +kernel
theorem dX8_about_15 : decode cX8_about 15 = .ok (.iconst 5, 1) := by decide +kernel
theorem dX8_about_16 : decode cX8_about 16 = .ok (.invokestatic 94, 3) := by decide +kernel
theorem dX8_about_19 : decode cX8_about 19 = .ok (.ifCond .eq 12, 3) := by decide +kernel
theorem dX8_about_22 : decode cX8_about 22 = .ok (.aload_n 0, 1) := by decide +kernel
theorem dX8_about_23 : decode cX8_about 23 = .ok (.iload_n 1, 1) := by decide +kernel
theorem dX8_about_24 : decode cX8_about 24 = .ok (.iload_n 2, 1) := by decide +kernel
theorem dX8_about_25 : decode cX8_about 25 = .ok (.invokevirtual 135, 3) := by decide +kernel
theorem dX8_about_28 : decode cX8_about 28 = .ok (.goto 5, 3) := by decide +kernel
theorem dX8_about_31 : decode cX8_about 31 = .ok (.bipush (-102), 2) := by decide +kernel
theorem dX8_about_33 : decode cX8_about 33 = .ok (.ireturn, 1) := by decide +kernel
theorem dX8_price_0 : decode cX8_price 0 = .ok (.aload_n 0, 1) := by decide +kernel
theorem dX8_price_1 : decode cX8_price 1 = .ok (.iload_n 1, 1) := by decide +kernel
theorem dX8_price_2 : decode cX8_price 2 = .ok (.invokevirtual 132, 3) := by decide +kernel
theorem dX8_price_5 : decode cX8_price 5 = .ok (.ifCond .ne 6, 3) := by decide +kernel
theorem dX8_price_8 : decode cX8_price 8 = .ok (.bipush (-101), 2) := by decide +kernel
theorem dX8_price_10 : decode cX8_price 10 = .ok (.ireturn, 1) := by decide +kernel
theorem dX8_price_11 : decode cX8_price 11 = .ok (.iload_n 2, 1) := by decide +kernel
theorem dX8_price_12 : decode cX8_price 12 = .ok (.iconst 0, 1) := by decide +kernel
theorem dX8_price_13 : decode cX8_price 13 = .ok (.bipush 9, 2) := by decide +kernel
theorem dX8_price_15 : decode cX8_price 15 = .ok (.invokestatic 94, 3) := by decide +kernel
theorem dX8_price_18 : decode cX8_price 18 = .ok (.ifCond .ne 6, 3) := by decide +kernel
theorem dX8_price_21 : decode cX8_price 21 = .ok (.bipush (-102), 2) := by decide +kernel
theorem dX8_price_23 : decode cX8_price 23 = .ok (.ireturn, 1) := by decide +kernel
theorem dX8_price_24 : decode cX8_price 24 = .ok (.aload_n 0, 1) := by decide +kernel
theorem dX8_price_25 : decode cX8_price 25 = .ok (.getfield 29, 3) := by decide +kernel
theorem dX8_price_28 : decode cX8_price 28 = .ok (.iload_n 1, 1) := by decide +kernel
theorem dX8_price_29 : decode cX8_price 29 = .ok (.iaload, 1) := by decide +kernel
theorem dX8_price_30 : decode cX8_price 30 = .ok (.istore_n 3, 1) := by decide +kernel
theorem dX8_price_31 : decode cX8_price 31 = .ok (.aload_n 0, 1) := by decide +kernel
theorem dX8_price_32 : decode cX8_price 32 = .ok (.getfield 29, 3) := by decide +kernel
theorem dX8_price_35 : decode cX8_price 35 = .ok (.iload_n 1, 1) := by decide +kernel
theorem dX8_price_36 : decode cX8_price 36 = .ok (.iload_n 2, 1) := by decide +kernel
theorem dX8_price_37 : decode cX8_price 37 = .ok (.iastore, 1) := by decide +kernel
theorem dX8_price_38 : decode cX8_price 38 = .ok (.iload_n 3, 1) := by decide +kernel
theorem dX8_price_39 : decode cX8_price 39 = .ok (.ireturn, 1) := by decide +kernel
theorem dX8_sort_0 : decode cX8_sort 0 = .ok (.iload_n 1, 1) := by decide +kernel
theorem dX8_sort_1 : decode cX8_sort 1 = .ok (.iconst 0, 1) := by decide +kernel
theorem dX8_sort_2 : decode cX8_sort 2 = .ok (.bipush 9, 2) := by decide +kernel
theorem dX8_sort_4 : decode cX8_sort 4 = .ok (.invokestatic 94, 3) := by decide +kernel
theorem dX8_sort_7 : decode cX8_sort 7 = .ok (.ifCond .eq 44, 3) := by decide +kernel
theorem dX8_sort_10 : decode cX8_sort 10 = .ok (.iload_n 2, 1) := by decide +kernel
theorem dX8_sort_11 : decode cX8_sort 11 = .ok (.iconst 1, 1) := by decide +kernel
theorem dX8_sort_12 : decode cX8_sort 12 = .ok (.bipush 50, 2) := by decide +kernel
theorem dX8_sort_14 : decode cX8_sort 14 = .ok (.invokestatic 94, 3) := by decide +kernel
theorem dX8_sort_17 : decode cX8_sort 17 = .ok (.ifCond .eq 34, 3) := by decide +kernel
theorem dX8_sort_20 : decode cX8_sort 20 = .ok (.iload_n 3, 1) := by decide +kernel
theorem dX8_sort_21 : decode cX8_sort 21 = .ok (.iconst 0, 1) := by decide +kernel
theorem dX8_sort_22 : decode cX8_sort 22 = .ok (.iconst 5, 1) := by decide +kernel
theorem dX8_sort_23 : decode cX8_sort 23 = .ok (.invokestatic 94, 3) := by decide +kernel
theorem dX8_sort_26 : decode cX8_sort 26 = .ok (.ifCond .eq 25, 3) := by decide +kernel
theorem dX8_sort_29 : decode cX8_sort 29 = .ok (.iload 4, 2) := by decide +kernel
theorem dX8_sort_31 : decode cX8_sort 31 = .ok (.iconst 0, 1) := by decide +kernel
theorem dX8_sort_32 : decode cX8_sort 32 = .ok (.bipush 30, 2) := by decide +kernel
theorem dX8_sort_34 : decode cX8_sort 34 = .ok (.invokestatic 94, 3) := by decide +kernel
theorem dX8_sort_37 : decode cX8_sort 37 = .ok (.ifCond .eq 14, 3) := by decide +kernel
theorem dX8_sort_40 : decode cX8_sort 40 = .ok (.iload 6, 2) := by decide +kernel
theorem dX8_sort_42 : decode cX8_sort 42 = .ok (.iconst 0, 1) := by decide +kernel
theorem dX8_sort_43 : decode cX8_sort 43 = .ok (.bipush 9, 2) := by decide +kernel
theorem dX8_sort_45 : decode cX8_sort 45 = .ok (.invokestatic 94, 3) := by decide +kernel
theorem dX8_sort_48 : decode cX8_sort 48 = .ok (.ifCond .ne 6, 3) := by decide +kernel
theorem dX8_sort_51 : decode cX8_sort 51 = .ok (.bipush (-102), 2) := by decide +kernel
theorem dX8_sort_53 : decode cX8_sort 53 = .ok (.ireturn, 1) := by decide +kernel
theorem dX8_sort_54 : decode cX8_sort 54 = .ok (.iload 5, 2) := by decide +kernel
theorem dX8_sort_56 : decode cX8_sort 56 = .ok (.iconst (-1), 1) := by decide +kernel
theorem dX8_sort_57 : decode cX8_sort 57 = .ok (.if_icmp .eq 15, 3) := by decide +kernel
theorem dX8_sort_60 : decode cX8_sort 60 = .ok (.aload_n 0, 1) := by decide +kernel
theorem dX8_sort_61 : decode cX8_sort 61 = .ok (.iload 5, 2) := by decide +kernel
theorem dX8_sort_63 : decode cX8_sort 63 = .ok (.invokevirtual 132, 3) := by decide +kernel
theorem dX8_sort_66 : decode cX8_sort 66 = .ok (.ifCond .ne 6, 3) := by decide +kernel
theorem dX8_sort_69 : decode cX8_sort 69 = .ok (.bipush (-101), 2) := by decide +kernel
theorem dX8_sort_71 : decode cX8_sort 71 = .ok (.ireturn, 1) := by decide +kernel
theorem dX8_sort_72 : decode cX8_sort 72 = .ok (.aload_n 0, 1) := by decide +kernel
theorem dX8_sort_73 : decode cX8_sort 73 = .ok (.getfield 101, 3) := by decide +kernel
theorem dX8_sort_76 : decode cX8_sort 76 = .ok (.bipush 8, 2) := by decide +kernel
theorem dX8_sort_78 : decode cX8_sort 78 = .ok (.if_icmp .ne 6, 3) := by decide +kernel
theorem dX8_sort_81 : decode cX8_sort 81 = .ok (.bipush (-104), 2) := by decide +kernel
theorem dX8_sort_83 : decode cX8_sort 83 = .ok (.ireturn, 1) := by decide +kernel
theorem dX8_sort_84 : decode cX8_sort 84 = .ok (.aload_n 0, 1) := by decide +kernel
theorem dX8_sort_85 : decode cX8_sort 85 = .ok (.getfield 32, 3) := by decide +kernel
theorem dX8_sort_88 : decode cX8_sort 88 = .ok (.bipush 6, 2) := by decide +kernel
theorem dX8_sort_90 : decode cX8_sort 90 = .ok (.aload_n 0, 1) := by decide +kernel
theorem dX8_sort_91 : decode cX8_sort 91 = .ok (.getfield 101, 3) := by decide +kernel
theorem dX8_sort_94 : decode cX8_sort 94 = .ok (.imul, 1) := by decide +kernel
theorem dX8_sort_95 : decode cX8_sort 95 = .ok (.iload_n 1, 1) := by decide +kernel
theorem dX8_sort_96 : decode cX8_sort 96 = .ok (.iastore, 1) := by decide +kernel
theorem dX8_sort_97 : decode cX8_sort 97 = .ok (.aload_n 0, 1) := by decide +kernel
theorem dX8_sort_98 : decode cX8_sort 98 = .ok (.getfield 32, 3) := by decide +kernel
theorem dX8_sort_101 : decode cX8_sort 101 = .ok (.bipush 6, 2) := by decide +kernel
theorem dX8_sort_103 : decode cX8_sort 103 = .ok (.aload_n 0, 1) := by decide +kernel
theorem dX8_sort_104 : decode cX8_sort 104 = .ok (.getfield 101, 3) := by decide +kernel
theorem dX8_sort_107 : decode cX8_sort 107 = .ok (.imul, 1) := by decide +kernel
theorem dX8_sort_108 : decode cX8_sort 108 = .ok (.iconst 1, 1) := by decide +kernel
theorem dX8_sort_109 : decode cX8_sort 109 = .ok (.iadd, 1) := by decide +kernel
theorem dX8_sort_110 : decode cX8_sort 110 = .ok (.iload_n 2, 1) := by decide +kernel
theorem dX8_sort_111 : decode cX8_sort 111 = .ok (.iastore, 1) := by decide +kernel
theorem dX8_sort_112 : decode cX8_sort 112 = .ok (.aload_n 0, 1) := by decide +kernel
theorem dX8_sort_113 : decode cX8_sort 113 = .ok (.getfield 32, 3) := by decide +kernel
theorem dX8_sort_116 : decode cX8_sort 116 = .ok (.bipush 6, 2) := by decide +kernel
theorem dX8_sort_118 : decode cX8_sort 118 = .ok (.aload_n 0, 1) := by decide +kernel
theorem dX8_sort_119 : decode cX8_sort 119 = .ok (.getfield 101, 3) := by decide +kernel
theorem dX8_sort_122 : decode cX8_sort 122 = .ok (.imul, 1) := by decide +kernel
theorem dX8_sort_123 : decode cX8_sort 123 = .ok (.iconst 2, 1) := by decide +kernel
theorem dX8_sort_124 : decode cX8_sort 124 = .ok (.iadd, 1) := by decide +kernel
theorem dX8_sort_125 : decode cX8_sort 125 = .ok (.iload_n 3, 1) := by decide +kernel
theorem dX8_sort_126 : decode cX8_sort 126 = .ok (.iastore, 1) := by decide +kernel
theorem dX8_sort_127 : decode cX8_sort 127 = .ok (.aload_n 0, 1) := by decide +kernel
theorem dX8_sort_128 : decode cX8_sort 128 = .ok (.getfield 32, 3) := by decide +kernel
theorem dX8_sort_131 : decode cX8_sort 131 = .ok (.bipush 6, 2) := by decide +kernel
theorem dX8_sort_133 : decode cX8_sort 133 = .ok (.aload_n 0, 1) := by decide +kernel
theorem dX8_sort_134 : decode cX8_sort 134 = .ok (.getfield 101, 3) := by decide +kernel
theorem dX8_sort_137 : decode cX8_sort 137 = .ok (.imul, 1) := by decide +kernel
theorem dX8_sort_138 : decode cX8_sort 138 = .ok (.iconst 3, 1) := by decide +kernel
theorem dX8_sort_139 : decode cX8_sort 139 = .ok (.iadd, 1) := by decide +kernel
theorem dX8_sort_140 : decode cX8_sort 140 = .ok (.iload 4, 2) := by decide +kernel
theorem dX8_sort_142 : decode cX8_sort 142 = .ok (.iastore, 1) := by decide +kernel
theorem dX8_sort_143 : decode cX8_sort 143 = .ok (.aload_n 0, 1) := by decide +kernel
theorem dX8_sort_144 : decode cX8_sort 144 = .ok (.getfield 32, 3) := by decide +kernel
theorem dX8_sort_147 : decode cX8_sort 147 = .ok (.bipush 6, 2) := by decide +kernel
theorem dX8_sort_149 : decode cX8_sort 149 = .ok (.aload_n 0, 1) := by decide +kernel
theorem dX8_sort_150 : decode cX8_sort 150 = .ok (.getfield 101, 3) := by decide +kernel
theorem dX8_sort_153 : decode cX8_sort 153 = .ok (.imul, 1) := by decide +kernel
theorem dX8_sort_154 : decode cX8_sort 154 = .ok (.iconst 4, 1) := by decide +kernel
theorem dX8_sort_155 : decode cX8_sort 155 = .ok (.iadd, 1) := by decide +kernel
theorem dX8_sort_156 : decode cX8_sort 156 = .ok (.iload 5, 2) := by decide +kernel
theorem dX8_sort_158 : decode cX8_sort 158 = .ok (.iastore, 1) := by decide +kernel
theorem dX8_sort_159 : decode cX8_sort 159 = .ok (.aload_n 0, 1) := by decide +kernel
theorem dX8_sort_160 : decode cX8_sort 160 = .ok (.getfield 32, 3) := by decide +kernel
theorem dX8_sort_163 : decode cX8_sort 163 = .ok (.bipush 6, 2) := by decide +kernel
theorem dX8_sort_165 : decode cX8_sort 165 = .ok (.aload_n 0, 1) := by decide +kernel
theorem dX8_sort_166 : decode cX8_sort 166 = .ok (.getfield 101, 3) := by decide +kernel
theorem dX8_sort_169 : decode cX8_sort 169 = .ok (.imul, 1) := by decide +kernel
theorem dX8_sort_170 : decode cX8_sort 170 = .ok (.iconst 5, 1) := by decide +kernel
theorem dX8_sort_171 : decode cX8_sort 171 = .ok (.iadd, 1) := by decide +kernel
theorem dX8_sort_172 : decode cX8_sort 172 = .ok (.iload 6, 2) := by decide +kernel
theorem dX8_sort_174 : decode cX8_sort 174 = .ok (.iastore, 1) := by decide +kernel
theorem dX8_sort_175 : decode cX8_sort 175 = .ok (.aload_n 0, 1) := by decide +kernel
theorem dX8_sort_176 : decode cX8_sort 176 = .ok (.dup, 1) := by decide +kernel
theorem dX8_sort_177 : decode cX8_sort 177 = .ok (.getfield 101, 3) := by decide +kernel
theorem dX8_sort_180 : decode cX8_sort 180 = .ok (.iconst 1, 1) := by decide +kernel
theorem dX8_sort_181 : decode cX8_sort 181 = .ok (.iadd, 1) := by decide +kernel
theorem dX8_sort_182 : decode cX8_sort 182 = .ok (.putfield 101, 3) := by decide +kernel
theorem dX8_sort_185 : decode cX8_sort 185 = .ok (.aload_n 0, 1) := by decide +kernel
theorem dX8_sort_186 : decode cX8_sort 186 = .ok (.getfield 101, 3) := by decide +kernel
theorem dX8_sort_189 : decode cX8_sort 189 = .ok (.iconst 1, 1) := by decide +kernel
theorem dX8_sort_190 : decode cX8_sort 190 = .ok (.isub, 1) := by decide +kernel
theorem dX8_sort_191 : decode cX8_sort 191 = .ok (.ireturn, 1) := by decide +kernel
theorem dX8_is_0 : decode cX8_is 0 = .ok (.aload_n 0, 1) := by decide +kernel
theorem dX8_is_1 : decode cX8_is 1 = .ok (.iload_n 1, 1) := by decide +kernel
theorem dX8_is_2 : decode cX8_is 2 = .ok (.invokevirtual 138, 3) := by decide +kernel
theorem dX8_is_5 : decode cX8_is 5 = .ok (.ifCond .eq 20, 3) := by decide +kernel
theorem dX8_is_8 : decode cX8_is 8 = .ok (.aload_n 0, 1) := by decide +kernel
theorem dX8_is_9 : decode cX8_is 9 = .ok (.iload_n 2, 1) := by decide +kernel
theorem dX8_is_10 : decode cX8_is 10 = .ok (.invokevirtual 132, 3) := by decide +kernel
theorem dX8_is_13 : decode cX8_is 13 = .ok (.ifCond .eq 12, 3) := by decide +kernel
theorem dX8_is_16 : decode cX8_is 16 = .ok (.aload_n 0, 1) := by decide +kernel
theorem dX8_is_17 : decode cX8_is 17 = .ok (.iload_n 1, 1) := by decide +kernel
theorem dX8_is_18 : decode cX8_is 18 = .ok (.iload_n 2, 1) := by decide +kernel
theorem dX8_is_19 : decode cX8_is 19 = .ok (.invokevirtual 122, 3) := by decide +kernel
theorem dX8_is_22 : decode cX8_is 22 = .ok (.goto 6, 3) := by decide +kernel
theorem dX8_is_25 : decode cX8_is 25 = .ok (.sipush (-1001), 3) := by decide +kernel
theorem dX8_is_28 : decode cX8_is 28 = .ok (.ireturn, 1) := by decide +kernel
theorem dX8_goes_0 : decode cX8_goes 0 = .ok (.aload_n 0, 1) := by decide +kernel
theorem dX8_goes_1 : decode cX8_goes 1 = .ok (.iload_n 1, 1) := by decide +kernel
theorem dX8_goes_2 : decode cX8_goes 2 = .ok (.invokevirtual 138, 3) := by decide +kernel
theorem dX8_goes_5 : decode cX8_goes 5 = .ok (.ifCond .eq 11, 3) := by decide +kernel
theorem dX8_goes_8 : decode cX8_goes 8 = .ok (.aload_n 0, 1) := by decide +kernel
theorem dX8_goes_9 : decode cX8_goes 9 = .ok (.iload_n 1, 1) := by decide +kernel
theorem dX8_goes_10 : decode cX8_goes 10 = .ok (.invokevirtual 125, 3) := by decide +kernel
theorem dX8_goes_13 : decode cX8_goes 13 = .ok (.goto 5, 3) := by decide +kernel
theorem dX8_goes_16 : decode cX8_goes 16 = .ok (.bipush (-101), 2) := by decide +kernel
theorem dX8_goes_18 : decode cX8_goes 18 = .ok (.ireturn, 1) := by decide +kernel
theorem dX8_spare_0 : decode cX8_spare 0 = .ok (.aload_n 0, 1) := by decide +kernel
theorem dX8_spare_1 : decode cX8_spare 1 = .ok (.iload_n 1, 1) := by decide +kernel
theorem dX8_spare_2 : decode cX8_spare 2 = .ok (.invokevirtual 138, 3) := by decide +kernel
theorem dX8_spare_5 : decode cX8_spare 5 = .ok (.ifCond .eq 11, 3) := by decide +kernel
theorem dX8_spare_8 : decode cX8_spare 8 = .ok (.aload_n 0, 1) := by decide +kernel
theorem dX8_spare_9 : decode cX8_spare 9 = .ok (.iload_n 1, 1) := by decide +kernel
theorem dX8_spare_10 : decode cX8_spare 10 = .ok (.invokevirtual 141, 3) := by decide +kernel
theorem dX8_spare_13 : decode cX8_spare 13 = .ok (.goto 5, 3) := by decide +kernel
theorem dX8_spare_16 : decode cX8_spare 16 = .ok (.bipush (-101), 2) := by decide +kernel
theorem dX8_spare_18 : decode cX8_spare 18 = .ok (.ireturn, 1) := by decide +kernel
theorem dX8_profit_0 : decode cX8_profit 0 = .ok (.aload_n 0, 1) := by decide +kernel
theorem dX8_profit_1 : decode cX8_profit 1 = .ok (.iload_n 1, 1) := by decide +kernel
theorem dX8_profit_2 : decode cX8_profit 2 = .ok (.invokevirtual 104, 3) := by decide +kernel
theorem dX8_profit_5 : decode cX8_profit 5 = .ok (.ifCond .eq 11, 3) := by decide +kernel
theorem dX8_profit_8 : decode cX8_profit 8 = .ok (.aload_n 0, 1) := by decide +kernel
theorem dX8_profit_9 : decode cX8_profit 9 = .ok (.iload_n 1, 1) := by decide +kernel
theorem dX8_profit_10 : decode cX8_profit 10 = .ok (.invokevirtual 144, 3) := by decide +kernel
theorem dX8_profit_13 : decode cX8_profit 13 = .ok (.goto 5, 3) := by decide +kernel
theorem dX8_profit_16 : decode cX8_profit 16 = .ok (.ldc 147, 2) := by decide +kernel
theorem dX8_profit_18 : decode cX8_profit 18 = .ok (.ireturn, 1) := by decide +kernel
theorem dX8_layCode_0 : decode cX8_layCode 0 = .ok (.iload_n 3, 1) := by decide +kernel
theorem dX8_layCode_1 : decode cX8_layCode 1 = .ok (.bipush 10, 2) := by decide +kernel
theorem dX8_layCode_3 : decode cX8_layCode 3 = .ok (.idiv, 1) := by decide +kernel
theorem dX8_layCode_4 : decode cX8_layCode 4 = .ok (.istore 5, 2) := by decide +kernel
theorem dX8_layCode_6 : decode cX8_layCode 6 = .ok (.iconst 0, 1) := by decide +kernel
theorem dX8_layCode_7 : decode cX8_layCode 7 = .ok (.istore 6, 2) := by decide +kernel
theorem dX8_layCode_9 : decode cX8_layCode 9 = .ok (.iload 6, 2) := by decide +kernel
theorem dX8_layCode_11 : decode cX8_layCode 11 = .ok (.aload_n 0, 1) := by decide +kernel
theorem dX8_layCode_12 : decode cX8_layCode 12 = .ok (.getfield 98, 3) := by decide +kernel
theorem dX8_layCode_15 : decode cX8_layCode 15 = .ok (.if_icmp .ge 61, 3) := by decide +kernel
theorem dX8_layCode_18 : decode cX8_layCode 18 = .ok (.aload_n 0, 1) := by decide +kernel
theorem dX8_layCode_19 : decode cX8_layCode 19 = .ok (.getfield 20, 3) := by decide +kernel
theorem dX8_layCode_22 : decode cX8_layCode 22 = .ok (.iload 6, 2) := by decide +kernel
theorem dX8_layCode_24 : decode cX8_layCode 24 = .ok (.iaload, 1) := by decide +kernel
theorem dX8_layCode_25 : decode cX8_layCode 25 = .ok (.iload_n 1, 1) := by decide +kernel
theorem dX8_layCode_26 : decode cX8_layCode 26 = .ok (.if_icmp .ne 44, 3) := by decide +kernel
theorem dX8_layCode_29 : decode cX8_layCode 29 = .ok (.aload_n 0, 1) := by decide +kernel
theorem dX8_layCode_30 : decode cX8_layCode 30 = .ok (.getfield 29, 3) := by decide +kernel
theorem dX8_layCode_33 : decode cX8_layCode 33 = .ok (.iload 6, 2) := by decide +kernel
theorem dX8_layCode_35 : decode cX8_layCode 35 = .ok (.iload 4, 2) := by decide +kernel
theorem dX8_layCode_37 : decode cX8_layCode 37 = .ok (.ifCond .eq 7, 3) := by decide +kernel
theorem dX8_layCode_40 : decode cX8_layCode 40 = .ok (.iload_n 2, 1) := by decide +kernel
theorem dX8_layCode_41 : decode cX8_layCode 41 = .ok (.goto 10, 3) := by decide +kernel
theorem dX8_layCode_44 : decode cX8_layCode 44 = .ok (.iload_n 2, 1) := by decide +kernel
theorem dX8_layCode_45 : decode cX8_layCode 45 = .ok (.iload 5, 2) := by decide +kernel
theorem dX8_layCode_47 : decode cX8_layCode 47 = .ok (.idiv, 1) := by decide +kernel
theorem dX8_layCode_48 : decode cX8_layCode 48 = .ok (.bipush 10, 2) := by decide +kernel
theorem dX8_layCode_50 : decode cX8_layCode 50 = .ok (.irem, 1) := by decide +kernel
theorem dX8_layCode_51 : decode cX8_layCode 51 = .ok (.iastore, 1) := by decide +kernel
theorem dX8_layCode_52 : decode cX8_layCode 52 = .ok (.iload 5, 2) := by decide +kernel
theorem dX8_layCode_54 : decode cX8_layCode 54 = .ok (.bipush 9, 2) := by decide +kernel
theorem dX8_layCode_56 : decode cX8_layCode 56 = .ok (.if_icmp .le 11, 3) := by decide +kernel
theorem dX8_layCode_59 : decode cX8_layCode 59 = .ok (.iload 5, 2) := by decide +kernel
theorem dX8_layCode_61 : decode cX8_layCode 61 = .ok (.bipush 10, 2) := by decide +kernel
theorem dX8_layCode_63 : decode cX8_layCode 63 = .ok (.idiv, 1) := by decide +kernel
theorem dX8_layCode_64 : decode cX8_layCode 64 = .ok (.goto 4, 3) := by decide +kernel
theorem dX8_layCode_67 : decode cX8_layCode 67 = .ok (.iconst 1, 1) := by decide +kernel
theorem dX8_layCode_68 : decode cX8_layCode 68 = .ok (.istore 5, 2) := by decide +kernel
theorem dX8_layCode_70 : decode cX8_layCode 70 = .ok (.iinc 6 1, 3) := by decide +kernel
theorem dX8_layCode_73 : decode cX8_layCode 73 = .ok (.goto (-64), 3) := by decide +kernel
theorem dX8_layCode_76 : decode cX8_layCode 76 = .ok (.return_, 1) := by decide +kernel
theorem dX8_layBest_0 : decode cX8_layBest 0 = .ok (.aload_n 0, 1) := by decide +kernel
theorem dX8_layBest_1 : decode cX8_layBest 1 = .ok (.iload_n 1, 1) := by decide +kernel
theorem dX8_layBest_2 : decode cX8_layBest 2 = .ok (.invokevirtual 108, 3) := by decide +kernel
theorem dX8_layBest_5 : decode cX8_layBest 5 = .ok (.istore_n 2, 1) := by decide +kernel
theorem dX8_layBest_6 : decode cX8_layBest 6 = .ok (.aload_n 0, 1) := by decide +kernel
theorem dX8_layBest_7 : decode cX8_layBest 7 = .ok (.getfield 16, 3) := by decide +kernel
theorem dX8_layBest_10 : decode cX8_layBest 10 = .ok (.iload_n 1, 1) := by decide +kernel
theorem dX8_layBest_11 : decode cX8_layBest 11 = .ok (.baload, 1) := by decide +kernel
theorem dX8_layBest_12 : decode cX8_layBest 12 = .ok (.istore_n 3, 1) := by decide +kernel
theorem dX8_layBest_13 : decode cX8_layBest 13 = .ok (.iconst 0, 1) := by decide +kernel
theorem dX8_layBest_14 : decode cX8_layBest 14 = .ok (.istore 4, 2) := by decide +kernel
theorem dX8_layBest_16 : decode cX8_layBest 16 = .ok (.iload 4, 2) := by decide +kernel
theorem dX8_layBest_18 : decode cX8_layBest 18 = .ok (.aload_n 0, 1) := by decide +kernel
theorem dX8_layBest_19 : decode cX8_layBest 19 = .ok (.getfield 98, 3) := by decide +kernel
theorem dX8_layBest_22 : decode cX8_layBest 22 = .ok (.if_icmp .ge 37, 3) := by decide +kernel
theorem dX8_layBest_25 : decode cX8_layBest 25 = .ok (.aload_n 0, 1) := by decide +kernel
theorem dX8_layBest_26 : decode cX8_layBest 26 = .ok (.getfield 64, 3) := by decide +kernel
theorem dX8_layBest_29 : decode cX8_layBest 29 = .ok (.iload 4, 2) := by decide +kernel
theorem dX8_layBest_31 : decode cX8_layBest 31 = .ok (.aload_n 0, 1) := by decide +kernel
theorem dX8_layBest_32 : decode cX8_layBest 32 = .ok (.getfield 29, 3) := by decide +kernel
theorem dX8_layBest_35 : decode cX8_layBest 35 = .ok (.iload 4, 2) := by decide +kernel
theorem dX8_layBest_37 : decode cX8_layBest 37 = .ok (.iaload, 1) := by decide +kernel
theorem dX8_layBest_38 : decode cX8_layBest 38 = .ok (.iastore, 1) := by decide +kernel
theorem dX8_layBest_39 : decode cX8_layBest 39 = .ok (.aload_n 0, 1) := by decide +kernel
theorem dX8_layBest_40 : decode cX8_layBest 40 = .ok (.getfield 61, 3) := by decide +kernel
theorem dX8_layBest_43 : decode cX8_layBest 43 = .ok (.iload 4, 2) := by decide +kernel
theorem dX8_layBest_45 : decode cX8_layBest 45 = .ok (.aload_n 0, 1) := by decide +kernel
theorem dX8_layBest_46 : decode cX8_layBest 46 = .ok (.getfield 29, 3) := by decide +kernel
theorem dX8_layBest_49 : decode cX8_layBest 49 = .ok (.iload 4, 2) := by decide +kernel
theorem dX8_layBest_51 : decode cX8_layBest 51 = .ok (.iaload, 1) := by decide +kernel
theorem dX8_layBest_52 : decode cX8_layBest 52 = .ok (.iastore, 1) := by decide +kernel
theorem dX8_layBest_53 : decode cX8_layBest 53 = .ok (.iinc 4 1, 3) := by decide +kernel
theorem dX8_layBest_56 : decode cX8_layBest 56 = .ok (.goto (-40), 3) := by decide +kernel
theorem dX8_layBest_59 : decode cX8_layBest 59 = .ok (.aload_n 0, 1) := by decide +kernel
theorem dX8_layBest_60 : decode cX8_layBest 60 = .ok (.getfield 16, 3) := by decide +kernel
theorem dX8_layBest_63 : decode cX8_layBest 63 = .ok (.iload_n 1, 1) := by decide +kernel
theorem dX8_layBest_64 : decode cX8_layBest 64 = .ok (.iconst 1, 1) := by decide +kernel
theorem dX8_layBest_65 : decode cX8_layBest 65 = .ok (.bastore, 1) := by decide +kernel
theorem dX8_layBest_66 : decode cX8_layBest 66 = .ok (.iconst 1, 1) := by decide +kernel
theorem dX8_layBest_67 : decode cX8_layBest 67 = .ok (.istore 4, 2) := by decide +kernel
theorem dX8_layBest_69 : decode cX8_layBest 69 = .ok (.aload_n 0, 1) := by decide +kernel
theorem dX8_layBest_70 : decode cX8_layBest 70 = .ok (.getfield 7, 3) := by decide +kernel
theorem dX8_layBest_73 : decode cX8_layBest 73 = .ok (.iload_n 1, 1) := by decide +kernel
theorem dX8_layBest_74 : decode cX8_layBest 74 = .ok (.iaload, 1) := by decide +kernel
theorem dX8_layBest_75 : decode cX8_layBest 75 = .ok (.iconst 1, 1) := by decide +kernel
theorem dX8_layBest_76 : decode cX8_layBest 76 = .ok (.if_icmp .eq 13, 3) := by decide +kernel
theorem dX8_layBest_79 : decode cX8_layBest 79 = .ok (.aload_n 0, 1) := by decide +kernel
theorem dX8_layBest_80 : decode cX8_layBest 80 = .ok (.getfield 7, 3) := by decide +kernel
theorem dX8_layBest_83 : decode cX8_layBest 83 = .ok (.iload_n 1, 1) := by decide +kernel
theorem dX8_layBest_84 : decode cX8_layBest 84 = .ok (.iaload, 1) := by decide +kernel
theorem dX8_layBest_85 : decode cX8_layBest 85 = .ok (.iconst 4, 1) := by decide +kernel
theorem dX8_layBest_86 : decode cX8_layBest 86 = .ok (.if_icmp .ne 7, 3) := by decide +kernel
theorem dX8_layBest_89 : decode cX8_layBest 89 = .ok (.iconst 1, 1) := by decide +kernel
theorem dX8_layBest_90 : decode cX8_layBest 90 = .ok (.goto 4, 3) := by decide +kernel
theorem dX8_layBest_93 : decode cX8_layBest 93 = .ok (.iconst 0, 1) := by decide +kernel
theorem dX8_layBest_94 : decode cX8_layBest 94 = .ok (.istore 5, 2) := by decide +kernel
theorem dX8_layBest_96 : decode cX8_layBest 96 = .ok (.iconst 0, 1) := by decide +kernel
theorem dX8_layBest_97 : decode cX8_layBest 97 = .ok (.istore 6, 2) := by decide +kernel
theorem dX8_layBest_99 : decode cX8_layBest 99 = .ok (.iload 6, 2) := by decide +kernel
theorem dX8_layBest_101 : decode cX8_layBest 101 = .ok (.iload_n 2, 1) := by decide +kernel
theorem dX8_layBest_102 : decode cX8_layBest 102 = .ok (.if_icmp .ge 40, 3) := by decide +kernel
theorem dX8_layBest_105 : decode cX8_layBest 105 = .ok (.aload_n 0, 1) := by decide +kernel
theorem dX8_layBest_106 : decode cX8_layBest 106 = .ok (.getfield 7, 3) := by decide +kernel
theorem dX8_layBest_109 : decode cX8_layBest 109 = .ok (.iload_n 1, 1) := by decide +kernel
theorem dX8_layBest_110 : decode cX8_layBest 110 = .ok (.iaload, 1) := by decide +kernel
theorem dX8_layBest_111 : decode cX8_layBest 111 = .ok (.iconst 2, 1) := by decide +kernel
theorem dX8_layBest_112 : decode cX8_layBest 112 = .ok (.if_icmp .eq 30, 3) := by decide +kernel
theorem dX8_layBest_115 : decode cX8_layBest 115 = .ok (.iload 4, 2) := by decide +kernel
theorem dX8_layBest_117 : decode cX8_layBest 117 = .ok (.iload 5, 2) := by decide +kernel
theorem dX8_layBest_119 : decode cX8_layBest 119 = .ok (.ifCond .eq 12, 3) := by decide +kernel
theorem dX8_layBest_122 : decode cX8_layBest 122 = .ok (.iload 6, 2) := by decide +kernel
theorem dX8_layBest_124 : decode cX8_layBest 124 = .ok (.ifCond .le 7, 3) := by decide +kernel
theorem dX8_layBest_127 : decode cX8_layBest 127 = .ok (.iconst 1, 1) := by decide +kernel
theorem dX8_layBest_128 : decode cX8_layBest 128 = .ok (.goto 5, 3) := by decide +kernel
theorem dX8_layBest_131 : decode cX8_layBest 131 = .ok (.bipush 10, 2) := by decide +kernel
theorem dX8_layBest_133 : decode cX8_layBest 133 = .ok (.imul, 1) := by decide +kernel
theorem dX8_layBest_134 : decode cX8_layBest 134 = .ok (.istore 4, 2) := by decide +kernel
theorem dX8_layBest_136 : decode cX8_layBest 136 = .ok (.iinc 6 1, 3) := by decide +kernel
theorem dX8_layBest_139 : decode cX8_layBest 139 = .ok (.goto (-40), 3) := by decide +kernel
theorem dX8_layBest_142 : decode cX8_layBest 142 = .ok (.iconst 0, 1) := by decide +kernel
theorem dX8_layBest_143 : decode cX8_layBest 143 = .ok (.istore 6, 2) := by decide +kernel
theorem dX8_layBest_145 : decode cX8_layBest 145 = .ok (.iload 6, 2) := by decide +kernel
theorem dX8_layBest_147 : decode cX8_layBest 147 = .ok (.iload 4, 2) := by decide +kernel
theorem dX8_layBest_149 : decode cX8_layBest 149 = .ok (.if_icmp .ge 89, 3) := by decide +kernel
theorem dX8_layBest_152 : decode cX8_layBest 152 = .ok (.aload_n 0, 1) := by decide +kernel
theorem dX8_layBest_153 : decode cX8_layBest 153 = .ok (.getfield 7, 3) := by decide +kernel
theorem dX8_layBest_156 : decode cX8_layBest 156 = .ok (.iload_n 1, 1) := by decide +kernel
theorem dX8_layBest_157 : decode cX8_layBest 157 = .ok (.iaload, 1) := by decide +kernel
theorem dX8_layBest_158 : decode cX8_layBest 158 = .ok (.iconst 2, 1) := by decide +kernel
theorem dX8_layBest_159 : decode cX8_layBest 159 = .ok (.if_icmp .eq 14, 3) := by decide +kernel
theorem dX8_layBest_162 : decode cX8_layBest 162 = .ok (.aload_n 0, 1) := by decide +kernel
theorem dX8_layBest_163 : decode cX8_layBest 163 = .ok (.iload_n 1, 1) := by decide +kernel
theorem dX8_layBest_164 : decode cX8_layBest 164 = .ok (.iload 6, 2) := by decide +kernel
theorem dX8_layBest_166 : decode cX8_layBest 166 = .ok (.iload 4, 2) := by decide +kernel
theorem dX8_layBest_168 : decode cX8_layBest 168 = .ok (.iload 5, 2) := by decide +kernel
theorem dX8_layBest_170 : decode cX8_layBest 170 = .ok (.invokevirtual 148, 3) := by decide +kernel
theorem dX8_layBest_173 : decode cX8_layBest 173 = .ok (.aload_n 0, 1) := by decide +kernel
theorem dX8_layBest_174 : decode cX8_layBest 174 = .ok (.iload_n 1, 1) := by decide +kernel
theorem dX8_layBest_175 : decode cX8_layBest 175 = .ok (.invokevirtual 144, 3) := by decide +kernel
theorem dX8_layBest_178 : decode cX8_layBest 178 = .ok (.istore 7, 2) := by decide +kernel
theorem dX8_layBest_180 : decode cX8_layBest 180 = .ok (.iload 6, 2) := by decide +kernel
theorem dX8_layBest_182 : decode cX8_layBest 182 = .ok (.ifCond .eq 12, 3) := by decide +kernel
theorem dX8_layBest_185 : decode cX8_layBest 185 = .ok (.iload 7, 2) := by decide +kernel
theorem dX8_layBest_187 : decode cX8_layBest 187 = .ok (.aload_n 0, 1) := by decide +kernel
theorem dX8_layBest_188 : decode cX8_layBest 188 = .ok (.getfield 152, 3) := by decide +kernel
theorem dX8_layBest_191 : decode cX8_layBest 191 = .ok (.if_icmp .le 41, 3) := by decide +kernel
theorem dX8_layBest_194 : decode cX8_layBest 194 = .ok (.aload_n 0, 1) := by decide +kernel
theorem dX8_layBest_195 : decode cX8_layBest 195 = .ok (.iload 7, 2) := by decide +kernel
theorem dX8_layBest_197 : decode cX8_layBest 197 = .ok (.putfield 152, 3) := by decide +kernel
theorem dX8_layBest_200 : decode cX8_layBest 200 = .ok (.iconst 0, 1) := by decide +kernel
theorem dX8_layBest_201 : decode cX8_layBest 201 = .ok (.istore 8, 2) := by decide +kernel
theorem dX8_layBest_203 : decode cX8_layBest 203 = .ok (.iload 8, 2) := by decide +kernel
theorem dX8_layBest_205 : decode cX8_layBest 205 = .ok (.aload_n 0, 1) := by decide +kernel
theorem dX8_layBest_206 : decode cX8_layBest 206 = .ok (.getfield 98, 3) := by decide +kernel
theorem dX8_layBest_209 : decode cX8_layBest 209 = .ok (.if_icmp .ge 23, 3) := by decide +kernel
theorem dX8_layBest_212 : decode cX8_layBest 212 = .ok (.aload_n 0, 1) := by decide +kernel
theorem dX8_layBest_213 : decode cX8_layBest 213 = .ok (.getfield 61, 3) := by decide +kernel
theorem dX8_layBest_216 : decode cX8_layBest 216 = .ok (.iload 8, 2) := by decide +kernel
theorem dX8_layBest_218 : decode cX8_layBest 218 = .ok (.aload_n 0, 1) := by decide +kernel
theorem dX8_layBest_219 : decode cX8_layBest 219 = .ok (.getfield 29, 3) := by decide +kernel
theorem dX8_layBest_222 : decode cX8_layBest 222 = .ok (.iload 8, 2) := by decide +kernel
theorem dX8_layBest_224 : decode cX8_layBest 224 = .ok (.iaload, 1) := by decide +kernel
theorem dX8_layBest_225 : decode cX8_layBest 225 = .ok (.iastore, 1) := by decide +kernel
theorem dX8_layBest_226 : decode cX8_layBest 226 = .ok (.iinc 8 1, 3) := by decide +kernel
theorem dX8_layBest_229 : decode cX8_layBest 229 = .ok (.goto (-26), 3) := by decide +kernel
theorem dX8_layBest_232 : decode cX8_layBest 232 = .ok (.iinc 6 1, 3) := by decide +kernel
theorem dX8_layBest_235 : decode cX8_layBest 235 = .ok (.goto (-90), 3) := by decide +kernel
theorem dX8_layBest_238 : decode cX8_layBest 238 = .ok (.aload_n 0, 1) := by decide +kernel
theorem dX8_layBest_239 : decode cX8_layBest 239 = .ok (.aload_n 0, 1) := by decide +kernel
theorem dX8_layBest_240 : decode cX8_layBest 240 = .ok (.getfield 7, 3) := by decide +kernel
theorem dX8_layBest_243 : decode cX8_layBest 243 = .ok (.iload_n 1, 1) := by decide +kernel
theorem dX8_layBest_244 : decode cX8_layBest 244 = .ok (.iaload, 1) := by decide +kernel
theorem dX8_layBest_245 : decode cX8_layBest 245 = .ok (.iconst 4, 1) := by decide +kernel
theorem dX8_layBest_246 : decode cX8_layBest 246 = .ok (.if_icmp .ne 20, 3) := by decide +kernel
theorem dX8_layBest_249 : decode cX8_layBest 249 = .ok (.aload_n 0, 1) := by decide +kernel
theorem dX8_layBest_250 : decode cX8_layBest 250 = .ok (.getfield 152, 3) := by decide +kernel
theorem dX8_layBest_253 : decode cX8_layBest 253 = .ok (.aload_n 0, 1) := by decide +kernel
theorem dX8_layBest_254 : decode cX8_layBest 254 = .ok (.getfield 13, 3) := by decide +kernel
theorem dX8_layBest_257 : decode cX8_layBest 257 = .ok (.iload_n 1, 1) := by decide +kernel
theorem dX8_layBest_258 : decode cX8_layBest 258 = .ok (.iaload, 1) := by decide +kernel
theorem dX8_layBest_259 : decode cX8_layBest 259 = .ok (.if_icmp .le 7, 3) := by decide +kernel
theorem dX8_layBest_262 : decode cX8_layBest 262 = .ok (.iconst 1, 1) := by decide +kernel
theorem dX8_layBest_263 : decode cX8_layBest 263 = .ok (.goto 4, 3) := by decide +kernel
theorem dX8_layBest_266 : decode cX8_layBest 266 = .ok (.iconst 0, 1) := by decide +kernel
theorem dX8_layBest_267 : decode cX8_layBest 267 = .ok (.putfield 155, 3) := by decide +kernel
theorem dX8_layBest_270 : decode cX8_layBest 270 = .ok (.iconst 0, 1) := by decide +kernel
theorem dX8_layBest_271 : decode cX8_layBest 271 = .ok (.istore 6, 2) := by decide +kernel
theorem dX8_layBest_273 : decode cX8_layBest 273 = .ok (.iload 6, 2) := by decide +kernel
theorem dX8_layBest_275 : decode cX8_layBest 275 = .ok (.aload_n 0, 1) := by decide +kernel
theorem dX8_layBest_276 : decode cX8_layBest 276 = .ok (.getfield 98, 3) := by decide +kernel
theorem dX8_layBest_279 : decode cX8_layBest 279 = .ok (.if_icmp .ge 64, 3) := by decide +kernel
theorem dX8_layBest_282 : decode cX8_layBest 282 = .ok (.aload_n 0, 1) := by decide +kernel
theorem dX8_layBest_283 : decode cX8_layBest 283 = .ok (.getfield 29, 3) := by decide +kernel
theorem dX8_layBest_286 : decode cX8_layBest 286 = .ok (.iload 6, 2) := by decide +kernel
theorem dX8_layBest_288 : decode cX8_layBest 288 = .ok (.aload_n 0, 1) := by decide +kernel
theorem dX8_layBest_289 : decode cX8_layBest 289 = .ok (.getfield 64, 3) := by decide +kernel
theorem dX8_layBest_292 : decode cX8_layBest 292 = .ok (.iload 6, 2) := by decide +kernel
theorem dX8_layBest_294 : decode cX8_layBest 294 = .ok (.iaload, 1) := by decide +kernel
theorem dX8_layBest_295 : decode cX8_layBest 295 = .ok (.iastore, 1) := by decide +kernel
theorem dX8_layBest_296 : decode cX8_layBest 296 = .ok (.aload_n 0, 1) := by decide +kernel
theorem dX8_layBest_297 : decode cX8_layBest 297 = .ok (.getfield 61, 3) := by decide +kernel
theorem dX8_layBest_300 : decode cX8_layBest 300 = .ok (.iload 6, 2) := by decide +kernel
theorem dX8_layBest_302 : decode cX8_layBest 302 = .ok (.aload_n 0, 1) := by decide +kernel
theorem dX8_layBest_303 : decode cX8_layBest 303 = .ok (.getfield 7, 3) := by decide +kernel
theorem dX8_layBest_306 : decode cX8_layBest 306 = .ok (.iload_n 1, 1) := by decide +kernel
theorem dX8_layBest_307 : decode cX8_layBest 307 = .ok (.iaload, 1) := by decide +kernel
theorem dX8_layBest_308 : decode cX8_layBest 308 = .ok (.iconst 4, 1) := by decide +kernel
theorem dX8_layBest_309 : decode cX8_layBest 309 = .ok (.if_icmp .ne 20, 3) := by decide +kernel
theorem dX8_layBest_312 : decode cX8_layBest 312 = .ok (.aload_n 0, 1) := by decide +kernel
theorem dX8_layBest_313 : decode cX8_layBest 313 = .ok (.getfield 155, 3) := by decide +kernel
theorem dX8_layBest_316 : decode cX8_layBest 316 = .ok (.ifCond .ne 13, 3) := by decide +kernel
theorem dX8_layBest_319 : decode cX8_layBest 319 = .ok (.aload_n 0, 1) := by decide +kernel
theorem dX8_layBest_320 : decode cX8_layBest 320 = .ok (.getfield 64, 3) := by decide +kernel
theorem dX8_layBest_323 : decode cX8_layBest 323 = .ok (.iload 6, 2) := by decide +kernel
theorem dX8_layBest_325 : decode cX8_layBest 325 = .ok (.iaload, 1) := by decide +kernel
theorem dX8_layBest_326 : decode cX8_layBest 326 = .ok (.goto 10, 3) := by decide +kernel
theorem dX8_layBest_329 : decode cX8_layBest 329 = .ok (.aload_n 0, 1) := by decide +kernel
theorem dX8_layBest_330 : decode cX8_layBest 330 = .ok (.getfield 61, 3) := by decide +kernel
theorem dX8_layBest_333 : decode cX8_layBest 333 = .ok (.iload 6, 2) := by decide +kernel
theorem dX8_layBest_335 : decode cX8_layBest 335 = .ok (.iaload, 1) := by decide +kernel
theorem dX8_layBest_336 : decode cX8_layBest 336 = .ok (.iastore, 1) := by decide +kernel
theorem dX8_layBest_337 : decode cX8_layBest 337 = .ok (.iinc 6 1, 3) := by decide +kernel
theorem dX8_layBest_340 : decode cX8_layBest 340 = .ok (.goto (-67), 3) := by decide +kernel
theorem dX8_layBest_343 : decode cX8_layBest 343 = .ok (.aload_n 0, 1) := by decide +kernel
theorem dX8_layBest_344 : decode cX8_layBest 344 = .ok (.aload_n 0, 1) := by decide +kernel
theorem dX8_layBest_345 : decode cX8_layBest 345 = .ok (.getfield 7, 3) := by decide +kernel
theorem dX8_layBest_348 : decode cX8_layBest 348 = .ok (.iload_n 1, 1) := by decide +kernel
theorem dX8_layBest_349 : decode cX8_layBest 349 = .ok (.iaload, 1) := by decide +kernel
theorem dX8_layBest_350 : decode cX8_layBest 350 = .ok (.iconst 4, 1) := by decide +kernel
theorem dX8_layBest_351 : decode cX8_layBest 351 = .ok (.if_icmp .ne 14, 3) := by decide +kernel
theorem dX8_layBest_354 : decode cX8_layBest 354 = .ok (.aload_n 0, 1) := by decide +kernel
theorem dX8_layBest_355 : decode cX8_layBest 355 = .ok (.getfield 155, 3) := by decide +kernel
theorem dX8_layBest_358 : decode cX8_layBest 358 = .ok (.ifCond .ne 7, 3) := by decide +kernel
theorem dX8_layBest_361 : decode cX8_layBest 361 = .ok (.iconst 0, 1) := by decide +kernel
theorem dX8_layBest_362 : decode cX8_layBest 362 = .ok (.goto 7, 3) := by decide +kernel
theorem dX8_layBest_365 : decode cX8_layBest 365 = .ok (.aload_n 0, 1) := by decide +kernel
theorem dX8_layBest_366 : decode cX8_layBest 366 = .ok (.getfield 152, 3) := by decide +kernel
theorem dX8_layBest_369 : decode cX8_layBest 369 = .ok (.putfield 152, 3) := by decide +kernel
theorem dX8_layBest_372 : decode cX8_layBest 372 = .ok (.aload_n 0, 1) := by decide +kernel
theorem dX8_layBest_373 : decode cX8_layBest 373 = .ok (.getfield 16, 3) := by decide +kernel
theorem dX8_layBest_376 : decode cX8_layBest 376 = .ok (.iload_n 1, 1) := by decide +kernel
theorem dX8_layBest_377 : decode cX8_layBest 377 = .ok (.iload_n 3, 1) := by decide +kernel
theorem dX8_layBest_378 : decode cX8_layBest 378 = .ok (.bastore, 1) := by decide +kernel
theorem dX8_layBest_379 : decode cX8_layBest 379 = .ok (.return_, 1) := by decide +kernel
theorem dX8_best_0 : decode cX8_best 0 = .ok (.aload_n 0, 1) := by decide +kernel
theorem dX8_best_1 : decode cX8_best 1 = .ok (.iload_n 1, 1) := by decide +kernel
theorem dX8_best_2 : decode cX8_best 2 = .ok (.invokevirtual 132, 3) := by decide +kernel
theorem dX8_best_5 : decode cX8_best 5 = .ok (.ifCond .ne 6, 3) := by decide +kernel
theorem dX8_best_8 : decode cX8_best 8 = .ok (.bipush (-101), 2) := by decide +kernel
theorem dX8_best_10 : decode cX8_best 10 = .ok (.ireturn, 1) := by decide +kernel
theorem dX8_best_11 : decode cX8_best 11 = .ok (.iload_n 2, 1) := by decide +kernel
theorem dX8_best_12 : decode cX8_best 12 = .ok (.iconst 0, 1) := by decide +kernel
theorem dX8_best_13 : decode cX8_best 13 = .ok (.iconst 1, 1) := by decide +kernel
theorem dX8_best_14 : decode cX8_best 14 = .ok (.invokestatic 94, 3) := by decide +kernel
theorem dX8_best_17 : decode cX8_best 17 = .ok (.ifCond .ne 6, 3) := by decide +kernel
theorem dX8_best_20 : decode cX8_best 20 = .ok (.bipush (-102), 2) := by decide +kernel
theorem dX8_best_22 : decode cX8_best 22 = .ok (.ireturn, 1) := by decide +kernel
theorem dX8_best_23 : decode cX8_best 23 = .ok (.aload_n 0, 1) := by decide +kernel
theorem dX8_best_24 : decode cX8_best 24 = .ok (.getfield 20, 3) := by decide +kernel
theorem dX8_best_27 : decode cX8_best 27 = .ok (.iload_n 1, 1) := by decide +kernel
theorem dX8_best_28 : decode cX8_best 28 = .ok (.iaload, 1) := by decide +kernel
theorem dX8_best_29 : decode cX8_best 29 = .ok (.istore_n 3, 1) := by decide +kernel
theorem dX8_best_30 : decode cX8_best 30 = .ok (.aload_n 0, 1) := by decide +kernel
theorem dX8_best_31 : decode cX8_best 31 = .ok (.iload_n 3, 1) := by decide +kernel
theorem dX8_best_32 : decode cX8_best 32 = .ok (.invokevirtual 159, 3) := by decide +kernel
theorem dX8_best_35 : decode cX8_best 35 = .ok (.iload_n 2, 1) := by decide +kernel
theorem dX8_best_36 : decode cX8_best 36 = .ok (.ifCond .ne 12, 3) := by decide +kernel
theorem dX8_best_39 : decode cX8_best 39 = .ok (.aload_n 0, 1) := by decide +kernel
theorem dX8_best_40 : decode cX8_best 40 = .ok (.getfield 61, 3) := by decide +kernel
theorem dX8_best_43 : decode cX8_best 43 = .ok (.iload_n 1, 1) := by decide +kernel
theorem dX8_best_44 : decode cX8_best 44 = .ok (.iaload, 1) := by decide +kernel
theorem dX8_best_45 : decode cX8_best 45 = .ok (.goto 25, 3) := by decide +kernel
theorem dX8_best_48 : decode cX8_best 48 = .ok (.aload_n 0, 1) := by decide +kernel
theorem dX8_best_49 : decode cX8_best 49 = .ok (.getfield 7, 3) := by decide +kernel
theorem dX8_best_52 : decode cX8_best 52 = .ok (.iload_n 3, 1) := by decide +kernel
theorem dX8_best_53 : decode cX8_best 53 = .ok (.iaload, 1) := by decide +kernel
theorem dX8_best_54 : decode cX8_best 54 = .ok (.iconst 4, 1) := by decide +kernel
theorem dX8_best_55 : decode cX8_best 55 = .ok (.if_icmp .ne 10, 3) := by decide +kernel
theorem dX8_best_58 : decode cX8_best 58 = .ok (.aload_n 0, 1) := by decide +kernel
theorem dX8_best_59 : decode cX8_best 59 = .ok (.getfield 155, 3) := by decide +kernel
theorem dX8_best_62 : decode cX8_best 62 = .ok (.ifCond .eq 7, 3) := by decide +kernel
theorem dX8_best_65 : decode cX8_best 65 = .ok (.iconst 1, 1) := by decide +kernel
theorem dX8_best_66 : decode cX8_best 66 = .ok (.goto 4, 3) := by decide +kernel
theorem dX8_best_69 : decode cX8_best 69 = .ok (.iconst 0, 1) := by decide +kernel
theorem dX8_best_70 : decode cX8_best 70 = .ok (.ireturn, 1) := by decide +kernel
theorem dX8_turnOf_0 : decode cX8_turnOf 0 = .ok (.aload_n 0, 1) := by decide +kernel
theorem dX8_turnOf_1 : decode cX8_turnOf 1 = .ok (.iload_n 1, 1) := by decide +kernel
theorem dX8_turnOf_2 : decode cX8_turnOf 2 = .ok (.invokevirtual 159, 3) := by decide +kernel
theorem dX8_turnOf_5 : decode cX8_turnOf 5 = .ok (.iconst 0, 1) := by decide +kernel
theorem dX8_turnOf_6 : decode cX8_turnOf 6 = .ok (.istore_n 2, 1) := by decide +kernel
theorem dX8_turnOf_7 : decode cX8_turnOf 7 = .ok (.iconst 0, 1) := by decide +kernel
theorem dX8_turnOf_8 : decode cX8_turnOf 8 = .ok (.istore_n 3, 1) := by decide +kernel
theorem dX8_turnOf_9 : decode cX8_turnOf 9 = .ok (.iload_n 3, 1) := by decide +kernel
theorem dX8_turnOf_10 : decode cX8_turnOf 10 = .ok (.aload_n 0, 1) := by decide +kernel
theorem dX8_turnOf_11 : decode cX8_turnOf 11 = .ok (.getfield 98, 3) := by decide +kernel
theorem dX8_turnOf_14 : decode cX8_turnOf 14 = .ok (.if_icmp .ge 44, 3) := by decide +kernel
theorem dX8_turnOf_17 : decode cX8_turnOf 17 = .ok (.iload_n 2, 1) := by decide +kernel
theorem dX8_turnOf_18 : decode cX8_turnOf 18 = .ok (.aload_n 0, 1) := by decide +kernel
theorem dX8_turnOf_19 : decode cX8_turnOf 19 = .ok (.getfield 29, 3) := by decide +kernel
theorem dX8_turnOf_22 : decode cX8_turnOf 22 = .ok (.iload_n 3, 1) := by decide +kernel
theorem dX8_turnOf_23 : decode cX8_turnOf 23 = .ok (.iaload, 1) := by decide +kernel
theorem dX8_turnOf_24 : decode cX8_turnOf 24 = .ok (.aload_n 0, 1) := by decide +kernel
theorem dX8_turnOf_25 : decode cX8_turnOf 25 = .ok (.getfield 61, 3) := by decide +kernel
theorem dX8_turnOf_28 : decode cX8_turnOf 28 = .ok (.iload_n 3, 1) := by decide +kernel
theorem dX8_turnOf_29 : decode cX8_turnOf 29 = .ok (.iaload, 1) := by decide +kernel
theorem dX8_turnOf_30 : decode cX8_turnOf 30 = .ok (.if_icmp .ne 7, 3) := by decide +kernel
theorem dX8_turnOf_33 : decode cX8_turnOf 33 = .ok (.iconst 0, 1) := by decide +kernel
theorem dX8_turnOf_34 : decode cX8_turnOf 34 = .ok (.goto 4, 3) := by decide +kernel
theorem dX8_turnOf_37 : decode cX8_turnOf 37 = .ok (.iconst 1, 1) := by decide +kernel
theorem dX8_turnOf_38 : decode cX8_turnOf 38 = .ok (.iadd, 1) := by decide +kernel
theorem dX8_turnOf_39 : decode cX8_turnOf 39 = .ok (.istore_n 2, 1) := by decide +kernel
theorem dX8_turnOf_40 : decode cX8_turnOf 40 = .ok (.aload_n 0, 1) := by decide +kernel
theorem dX8_turnOf_41 : decode cX8_turnOf 41 = .ok (.getfield 29, 3) := by decide +kernel
theorem dX8_turnOf_44 : decode cX8_turnOf 44 = .ok (.iload_n 3, 1) := by decide +kernel
theorem dX8_turnOf_45 : decode cX8_turnOf 45 = .ok (.aload_n 0, 1) := by decide +kernel
theorem dX8_turnOf_46 : decode cX8_turnOf 46 = .ok (.getfield 61, 3) := by decide +kernel
theorem dX8_turnOf_49 : decode cX8_turnOf 49 = .ok (.iload_n 3, 1) := by decide +kernel
theorem dX8_turnOf_50 : decode cX8_turnOf 50 = .ok (.iaload, 1) := by decide +kernel
theorem dX8_turnOf_51 : decode cX8_turnOf 51 = .ok (.iastore, 1) := by decide +kernel
theorem dX8_turnOf_52 : decode cX8_turnOf 52 = .ok (.iinc 3 1, 3) := by decide +kernel
theorem dX8_turnOf_55 : decode cX8_turnOf 55 = .ok (.goto (-46), 3) := by decide +kernel
theorem dX8_turnOf_58 : decode cX8_turnOf 58 = .ok (.iload_n 2, 1) := by decide +kernel
theorem dX8_turnOf_59 : decode cX8_turnOf 59 = .ok (.aload_n 0, 1) := by decide +kernel
theorem dX8_turnOf_60 : decode cX8_turnOf 60 = .ok (.getfield 7, 3) := by decide +kernel
theorem dX8_turnOf_63 : decode cX8_turnOf 63 = .ok (.iload_n 1, 1) := by decide +kernel
theorem dX8_turnOf_64 : decode cX8_turnOf 64 = .ok (.iaload, 1) := by decide +kernel
theorem dX8_turnOf_65 : decode cX8_turnOf 65 = .ok (.iconst 4, 1) := by decide +kernel
theorem dX8_turnOf_66 : decode cX8_turnOf 66 = .ok (.if_icmp .ne 20, 3) := by decide +kernel
theorem dX8_turnOf_69 : decode cX8_turnOf 69 = .ok (.aload_n 0, 1) := by decide +kernel
theorem dX8_turnOf_70 : decode cX8_turnOf 70 = .ok (.getfield 16, 3) := by decide +kernel
theorem dX8_turnOf_73 : decode cX8_turnOf 73 = .ok (.iload_n 1, 1) := by decide +kernel
theorem dX8_turnOf_74 : decode cX8_turnOf 74 = .ok (.baload, 1) := by decide +kernel
theorem dX8_turnOf_75 : decode cX8_turnOf 75 = .ok (.aload_n 0, 1) := by decide +kernel
theorem dX8_turnOf_76 : decode cX8_turnOf 76 = .ok (.getfield 155, 3) := by decide +kernel
theorem dX8_turnOf_79 : decode cX8_turnOf 79 = .ok (.if_icmp .eq 7, 3) := by decide +kernel
theorem dX8_turnOf_82 : decode cX8_turnOf 82 = .ok (.iconst 1, 1) := by decide +kernel
theorem dX8_turnOf_83 : decode cX8_turnOf 83 = .ok (.goto 4, 3) := by decide +kernel
theorem dX8_turnOf_86 : decode cX8_turnOf 86 = .ok (.iconst 0, 1) := by decide +kernel
theorem dX8_turnOf_87 : decode cX8_turnOf 87 = .ok (.iadd, 1) := by decide +kernel
theorem dX8_turnOf_88 : decode cX8_turnOf 88 = .ok (.istore_n 2, 1) := by decide +kernel
theorem dX8_turnOf_89 : decode cX8_turnOf 89 = .ok (.aload_n 0, 1) := by decide +kernel
theorem dX8_turnOf_90 : decode cX8_turnOf 90 = .ok (.getfield 16, 3) := by decide +kernel
theorem dX8_turnOf_93 : decode cX8_turnOf 93 = .ok (.iload_n 1, 1) := by decide +kernel
theorem dX8_turnOf_94 : decode cX8_turnOf 94 = .ok (.aload_n 0, 1) := by decide +kernel
theorem dX8_turnOf_95 : decode cX8_turnOf 95 = .ok (.getfield 7, 3) := by decide +kernel
theorem dX8_turnOf_98 : decode cX8_turnOf 98 = .ok (.iload_n 1, 1) := by decide +kernel
theorem dX8_turnOf_99 : decode cX8_turnOf 99 = .ok (.iaload, 1) := by decide +kernel
theorem dX8_turnOf_100 : decode cX8_turnOf 100 = .ok (.iconst 4, 1) := by decide +kernel
theorem dX8_turnOf_101 : decode cX8_turnOf 101 = .ok (.if_icmp .ne 14, 3) := by decide +kernel
theorem dX8_turnOf_104 : decode cX8_turnOf 104 = .ok (.aload_n 0, 1) := by decide +kernel
theorem dX8_turnOf_105 : decode cX8_turnOf 105 = .ok (.getfield 155, 3) := by decide +kernel
theorem dX8_turnOf_108 : decode cX8_turnOf 108 = .ok (.ifCond .eq 7, 3) := by decide +kernel
theorem dX8_turnOf_111 : decode cX8_turnOf 111 = .ok (.iconst 1, 1) := by decide +kernel
theorem dX8_turnOf_112 : decode cX8_turnOf 112 = .ok (.goto 4, 3) := by decide +kernel
theorem dX8_turnOf_115 : decode cX8_turnOf 115 = .ok (.iconst 0, 1) := by decide +kernel
theorem dX8_turnOf_116 : decode cX8_turnOf 116 = .ok (.bastore, 1) := by decide +kernel
theorem dX8_turnOf_117 : decode cX8_turnOf 117 = .ok (.iload_n 2, 1) := by decide +kernel
theorem dX8_turnOf_118 : decode cX8_turnOf 118 = .ok (.ireturn, 1) := by decide +kernel
theorem dX8_turn_0 : decode cX8_turn 0 = .ok (.aload_n 0, 1) := by decide +kernel
theorem dX8_turn_1 : decode cX8_turn 1 = .ok (.iload_n 1, 1) := by decide +kernel
theorem dX8_turn_2 : decode cX8_turn 2 = .ok (.invokevirtual 104, 3) := by decide +kernel
theorem dX8_turn_5 : decode cX8_turn 5 = .ok (.ifCond .eq 11, 3) := by decide +kernel
theorem dX8_turn_8 : decode cX8_turn 8 = .ok (.aload_n 0, 1) := by decide +kernel
theorem dX8_turn_9 : decode cX8_turn 9 = .ok (.iload_n 1, 1) := by decide +kernel
theorem dX8_turn_10 : decode cX8_turn 10 = .ok (.invokevirtual 163, 3) := by decide +kernel
theorem dX8_turn_13 : decode cX8_turn 13 = .ok (.goto 5, 3) := by decide +kernel
theorem dX8_turn_16 : decode cX8_turn 16 = .ok (.bipush (-101), 2) := by decide +kernel
theorem dX8_turn_18 : decode cX8_turn 18 = .ok (.ireturn, 1) := by decide +kernel
theorem dX8_goOn_0 : decode cX8_goOn 0 = .ok (.iconst 0, 1) := by decide +kernel
theorem dX8_goOn_1 : decode cX8_goOn 1 = .ok (.istore_n 1, 1) := by decide +kernel
theorem dX8_goOn_2 : decode cX8_goOn 2 = .ok (.iload_n 1, 1) := by decide +kernel
theorem dX8_goOn_3 : decode cX8_goOn 3 = .ok (.bipush 20, 2) := by decide +kernel
theorem dX8_goOn_5 : decode cX8_goOn 5 = .ok (.if_icmp .ge 41, 3) := by decide +kernel
theorem dX8_goOn_8 : decode cX8_goOn 8 = .ok (.iconst 0, 1) := by decide +kernel
theorem dX8_goOn_9 : decode cX8_goOn 9 = .ok (.istore_n 2, 1) := by decide +kernel
theorem dX8_goOn_10 : decode cX8_goOn 10 = .ok (.iconst 0, 1) := by decide +kernel
theorem dX8_goOn_11 : decode cX8_goOn 11 = .ok (.istore_n 3, 1) := by decide +kernel
theorem dX8_goOn_12 : decode cX8_goOn 12 = .ok (.iload_n 3, 1) := by decide +kernel
theorem dX8_goOn_13 : decode cX8_goOn 13 = .ok (.aload_n 0, 1) := by decide +kernel
theorem dX8_goOn_14 : decode cX8_goOn 14 = .ok (.getfield 91, 3) := by decide +kernel
theorem dX8_goOn_17 : decode cX8_goOn 17 = .ok (.if_icmp .ge 17, 3) := by decide +kernel
theorem dX8_goOn_20 : decode cX8_goOn 20 = .ok (.iload_n 2, 1) := by decide +kernel
theorem dX8_goOn_21 : decode cX8_goOn 21 = .ok (.aload_n 0, 1) := by decide +kernel
theorem dX8_goOn_22 : decode cX8_goOn 22 = .ok (.iload_n 3, 1) := by decide +kernel
theorem dX8_goOn_23 : decode cX8_goOn 23 = .ok (.invokevirtual 163, 3) := by decide +kernel
theorem dX8_goOn_26 : decode cX8_goOn 26 = .ok (.iadd, 1) := by decide +kernel
theorem dX8_goOn_27 : decode cX8_goOn 27 = .ok (.istore_n 2, 1) := by decide +kernel
theorem dX8_goOn_28 : decode cX8_goOn 28 = .ok (.iinc 3 1, 3) := by decide +kernel
theorem dX8_goOn_31 : decode cX8_goOn 31 = .ok (.goto (-19), 3) := by decide +kernel
theorem dX8_goOn_34 : decode cX8_goOn 34 = .ok (.iload_n 2, 1) := by decide +kernel
theorem dX8_goOn_35 : decode cX8_goOn 35 = .ok (.ifCond .ne 5, 3) := by decide +kernel
theorem dX8_goOn_38 : decode cX8_goOn 38 = .ok (.iload_n 1, 1) := by decide +kernel
theorem dX8_goOn_39 : decode cX8_goOn 39 = .ok (.ireturn, 1) := by decide +kernel
theorem dX8_goOn_40 : decode cX8_goOn 40 = .ok (.iinc 1 1, 3) := by decide +kernel
theorem dX8_goOn_43 : decode cX8_goOn 43 = .ok (.goto (-41), 3) := by decide +kernel
theorem dX8_goOn_46 : decode cX8_goOn 46 = .ok (.iconst (-1), 1) := by decide +kernel
theorem dX8_goOn_47 : decode cX8_goOn 47 = .ok (.ireturn, 1) := by decide +kernel
theorem dX8_hold_0 : decode cX8_hold 0 = .ok (.iconst 0, 1) := by decide +kernel
theorem dX8_hold_1 : decode cX8_hold 1 = .ok (.istore_n 1, 1) := by decide +kernel
theorem dX8_hold_2 : decode cX8_hold 2 = .ok (.iload_n 1, 1) := by decide +kernel
theorem dX8_hold_3 : decode cX8_hold 3 = .ok (.bipush 6, 2) := by decide +kernel
theorem dX8_hold_5 : decode cX8_hold 5 = .ok (.if_icmp .ge 45, 3) := by decide +kernel
theorem dX8_hold_8 : decode cX8_hold 8 = .ok (.aload_n 0, 1) := by decide +kernel
theorem dX8_hold_9 : decode cX8_hold 9 = .ok (.getfield 67, 3) := by decide +kernel
theorem dX8_hold_12 : decode cX8_hold 12 = .ok (.iload_n 1, 1) := by decide +kernel
theorem dX8_hold_13 : decode cX8_hold 13 = .ok (.aload_n 0, 1) := by decide +kernel
theorem dX8_hold_14 : decode cX8_hold 14 = .ok (.getfield 29, 3) := by decide +kernel
theorem dX8_hold_17 : decode cX8_hold 17 = .ok (.iload_n 1, 1) := by decide +kernel
theorem dX8_hold_18 : decode cX8_hold 18 = .ok (.iaload, 1) := by decide +kernel
theorem dX8_hold_19 : decode cX8_hold 19 = .ok (.iastore, 1) := by decide +kernel
theorem dX8_hold_20 : decode cX8_hold 20 = .ok (.aload_n 0, 1) := by decide +kernel
theorem dX8_hold_21 : decode cX8_hold 21 = .ok (.getfield 70, 3) := by decide +kernel
theorem dX8_hold_24 : decode cX8_hold 24 = .ok (.iload_n 1, 1) := by decide +kernel
theorem dX8_hold_25 : decode cX8_hold 25 = .ok (.aload_n 0, 1) := by decide +kernel
theorem dX8_hold_26 : decode cX8_hold 26 = .ok (.getfield 20, 3) := by decide +kernel
theorem dX8_hold_29 : decode cX8_hold 29 = .ok (.iload_n 1, 1) := by decide +kernel
theorem dX8_hold_30 : decode cX8_hold 30 = .ok (.iaload, 1) := by decide +kernel
theorem dX8_hold_31 : decode cX8_hold 31 = .ok (.iastore, 1) := by decide +kernel
theorem dX8_hold_32 : decode cX8_hold 32 = .ok (.aload_n 0, 1) := by decide +kernel
theorem dX8_hold_33 : decode cX8_hold 33 = .ok (.getfield 73, 3) := by decide +kernel
theorem dX8_hold_36 : decode cX8_hold 36 = .ok (.iload_n 1, 1) := by decide +kernel
theorem dX8_hold_37 : decode cX8_hold 37 = .ok (.aload_n 0, 1) := by decide +kernel
theorem dX8_hold_38 : decode cX8_hold 38 = .ok (.getfield 16, 3) := by decide +kernel
theorem dX8_hold_41 : decode cX8_hold 41 = .ok (.iload_n 1, 1) := by decide +kernel
theorem dX8_hold_42 : decode cX8_hold 42 = .ok (.baload, 1) := by decide +kernel
theorem dX8_hold_43 : decode cX8_hold 43 = .ok (.bastore, 1) := by decide +kernel
theorem dX8_hold_44 : decode cX8_hold 44 = .ok (.iinc 1 1, 3) := by decide +kernel
theorem dX8_hold_47 : decode cX8_hold 47 = .ok (.goto (-45), 3) := by decide +kernel
theorem dX8_hold_50 : decode cX8_hold 50 = .ok (.return_, 1) := by decide +kernel
theorem dX8_back_0 : decode cX8_back 0 = .ok (.iconst 0, 1) := by decide +kernel
theorem dX8_back_1 : decode cX8_back 1 = .ok (.istore_n 1, 1) := by decide +kernel
theorem dX8_back_2 : decode cX8_back 2 = .ok (.iload_n 1, 1) := by decide +kernel
theorem dX8_back_3 : decode cX8_back 3 = .ok (.bipush 6, 2) := by decide +kernel
theorem dX8_back_5 : decode cX8_back 5 = .ok (.if_icmp .ge 45, 3) := by decide +kernel
theorem dX8_back_8 : decode cX8_back 8 = .ok (.aload_n 0, 1) := by decide +kernel
theorem dX8_back_9 : decode cX8_back 9 = .ok (.getfield 29, 3) := by decide +kernel
theorem dX8_back_12 : decode cX8_back 12 = .ok (.iload_n 1, 1) := by decide +kernel
theorem dX8_back_13 : decode cX8_back 13 = .ok (.aload_n 0, 1) := by decide +kernel
theorem dX8_back_14 : decode cX8_back 14 = .ok (.getfield 67, 3) := by decide +kernel
theorem dX8_back_17 : decode cX8_back 17 = .ok (.iload_n 1, 1) := by decide +kernel
theorem dX8_back_18 : decode cX8_back 18 = .ok (.iaload, 1) := by decide +kernel
theorem dX8_back_19 : decode cX8_back 19 = .ok (.iastore, 1) := by decide +kernel
theorem dX8_back_20 : decode cX8_back 20 = .ok (.aload_n 0, 1) := by decide +kernel
theorem dX8_back_21 : decode cX8_back 21 = .ok (.getfield 20, 3) := by decide +kernel
theorem dX8_back_24 : decode cX8_back 24 = .ok (.iload_n 1, 1) := by decide +kernel
theorem dX8_back_25 : decode cX8_back 25 = .ok (.aload_n 0, 1) := by decide +kernel
theorem dX8_back_26 : decode cX8_back 26 = .ok (.getfield 70, 3) := by decide +kernel
theorem dX8_back_29 : decode cX8_back 29 = .ok (.iload_n 1, 1) := by decide +kernel
theorem dX8_back_30 : decode cX8_back 30 = .ok (.iaload, 1) := by decide +kernel
theorem dX8_back_31 : decode cX8_back 31 = .ok (.iastore, 1) := by decide +kernel
theorem dX8_back_32 : decode cX8_back 32 = .ok (.aload_n 0, 1) := by decide +kernel
theorem dX8_back_33 : decode cX8_back 33 = .ok (.getfield 16, 3) := by decide +kernel
theorem dX8_back_36 : decode cX8_back 36 = .ok (.iload_n 1, 1) := by decide +kernel
theorem dX8_back_37 : decode cX8_back 37 = .ok (.aload_n 0, 1) := by decide +kernel
theorem dX8_back_38 : decode cX8_back 38 = .ok (.getfield 73, 3) := by decide +kernel
theorem dX8_back_41 : decode cX8_back 41 = .ok (.iload_n 1, 1) := by decide +kernel
theorem dX8_back_42 : decode cX8_back 42 = .ok (.baload, 1) := by decide +kernel
theorem dX8_back_43 : decode cX8_back 43 = .ok (.bastore, 1) := by decide +kernel
theorem dX8_back_44 : decode cX8_back 44 = .ok (.iinc 1 1, 3) := by decide +kernel
theorem dX8_back_47 : decode cX8_back 47 = .ok (.goto (-45), 3) := by decide +kernel
theorem dX8_back_50 : decode cX8_back 50 = .ok (.return_, 1) := by decide +kernel
theorem dX8_rest_0 : decode cX8_rest 0 = .ok (.aload_n 0, 1) := by decide +kernel
theorem dX8_rest_1 : decode cX8_rest 1 = .ok (.invokevirtual 166, 3) := by decide +kernel
theorem dX8_rest_4 : decode cX8_rest 4 = .ok (.aload_n 0, 1) := by decide +kernel
theorem dX8_rest_5 : decode cX8_rest 5 = .ok (.invokevirtual 169, 3) := by decide +kernel
theorem dX8_rest_8 : decode cX8_rest 8 = .ok (.istore_n 1, 1) := by decide +kernel
theorem dX8_rest_9 : decode cX8_rest 9 = .ok (.iload_n 1, 1) := by decide +kernel
theorem dX8_rest_10 : decode cX8_rest 10 = .ok (.iconst (-1), 1) := by decide +kernel
theorem dX8_rest_11 : decode cX8_rest 11 = .ok (.if_icmp .ne 10, 3) := by decide +kernel
theorem dX8_rest_14 : decode cX8_rest 14 = .ok (.aload_n 0, 1) := by decide +kernel
theorem dX8_rest_15 : decode cX8_rest 15 = .ok (.invokevirtual 172, 3) := by decide +kernel
theorem dX8_rest_18 : decode cX8_rest 18 = .ok (.bipush (-103), 2) := by decide +kernel
theorem dX8_rest_20 : decode cX8_rest 20 = .ok (.ireturn, 1) := by decide +kernel
theorem dX8_rest_21 : decode cX8_rest 21 = .ok (.iload_n 1, 1) := by decide +kernel
theorem dX8_rest_22 : decode cX8_rest 22 = .ok (.ireturn, 1) := by decide +kernel
theorem dX8_gainOf_0 : decode cX8_gainOf 0 = .ok (.aload_n 0, 1) := by decide +kernel
theorem dX8_gainOf_1 : decode cX8_gainOf 1 = .ok (.iload_n 1, 1) := by decide +kernel
theorem dX8_gainOf_2 : decode cX8_gainOf 2 = .ok (.invokevirtual 144, 3) := by decide +kernel
theorem dX8_gainOf_5 : decode cX8_gainOf 5 = .ok (.istore_n 2, 1) := by decide +kernel
theorem dX8_gainOf_6 : decode cX8_gainOf 6 = .ok (.aload_n 0, 1) := by decide +kernel
theorem dX8_gainOf_7 : decode cX8_gainOf 7 = .ok (.iload_n 1, 1) := by decide +kernel
theorem dX8_gainOf_8 : decode cX8_gainOf 8 = .ok (.invokevirtual 159, 3) := by decide +kernel
theorem dX8_gainOf_11 : decode cX8_gainOf 11 = .ok (.aload_n 0, 1) := by decide +kernel
theorem dX8_gainOf_12 : decode cX8_gainOf 12 = .ok (.getfield 152, 3) := by decide +kernel
theorem dX8_gainOf_15 : decode cX8_gainOf 15 = .ok (.iload_n 2, 1) := by decide +kernel
theorem dX8_gainOf_16 : decode cX8_gainOf 16 = .ok (.isub, 1) := by decide +kernel
theorem dX8_gainOf_17 : decode cX8_gainOf 17 = .ok (.ireturn, 1) := by decide +kernel
theorem dX8_otherwise_0 : decode cX8_otherwise 0 = .ok (.iconst 0, 1) := by decide +kernel
theorem dX8_otherwise_1 : decode cX8_otherwise 1 = .ok (.istore_n 1, 1) := by decide +kernel
theorem dX8_otherwise_2 : decode cX8_otherwise 2 = .ok (.iload_n 1, 1) := by decide +kernel
theorem dX8_otherwise_3 : decode cX8_otherwise 3 = .ok (.aload_n 0, 1) := by decide +kernel
theorem dX8_otherwise_4 : decode cX8_otherwise 4 = .ok (.getfield 91, 3) := by decide +kernel
theorem dX8_otherwise_7 : decode cX8_otherwise 7 = .ok (.if_icmp .ge 19, 3) := by decide +kernel
theorem dX8_otherwise_10 : decode cX8_otherwise 10 = .ok (.aload_n 0, 1) := by decide +kernel
theorem dX8_otherwise_11 : decode cX8_otherwise 11 = .ok (.iload_n 1, 1) := by decide +kernel
theorem dX8_otherwise_12 : decode cX8_otherwise 12 = .ok (.invokevirtual 175, 3) := by decide +kernel
theorem dX8_otherwise_15 : decode cX8_otherwise 15 = .ok (.ifCond .le 5, 3) := by decide +kernel
theorem dX8_otherwise_18 : decode cX8_otherwise 18 = .ok (.iload_n 1, 1) := by decide +kernel
theorem dX8_otherwise_19 : decode cX8_otherwise 19 = .ok (.ireturn, 1) := by decide +kernel
theorem dX8_otherwise_20 : decode cX8_otherwise 20 = .ok (.iinc 1 1, 3) := by decide +kernel
theorem dX8_otherwise_23 : decode cX8_otherwise 23 = .ok (.goto (-21), 3) := by decide +kernel
theorem dX8_otherwise_26 : decode cX8_otherwise 26 = .ok (.iconst (-1), 1) := by decide +kernel
theorem dX8_otherwise_27 : decode cX8_otherwise 27 = .ok (.ireturn, 1) := by decide +kernel
theorem dX8_gain_0 : decode cX8_gain 0 = .ok (.aload_n 0, 1) := by decide +kernel
theorem dX8_gain_1 : decode cX8_gain 1 = .ok (.iload_n 1, 1) := by decide +kernel
theorem dX8_gain_2 : decode cX8_gain 2 = .ok (.invokevirtual 104, 3) := by decide +kernel
theorem dX8_gain_5 : decode cX8_gain 5 = .ok (.ifCond .eq 11, 3) := by decide +kernel
theorem dX8_gain_8 : decode cX8_gain 8 = .ok (.aload_n 0, 1) := by decide +kernel
theorem dX8_gain_9 : decode cX8_gain 9 = .ok (.iload_n 1, 1) := by decide +kernel
theorem dX8_gain_10 : decode cX8_gain 10 = .ok (.invokevirtual 175, 3) := by decide +kernel
theorem dX8_gain_13 : decode cX8_gain 13 = .ok (.goto 5, 3) := by decide +kernel
theorem dX8_gain_16 : decode cX8_gain 16 = .ok (.ldc 147, 2) := by decide +kernel
theorem dX8_gain_18 : decode cX8_gain 18 = .ok (.ireturn, 1) := by decide +kernel
theorem dX8_profitOfSet_0 : decode cX8_profitOfSet 0 = .ok (.aload_n 0, 1) := by decide +kernel
theorem dX8_profitOfSet_1 : decode cX8_profitOfSet 1 = .ok (.invokevirtual 128, 3) := by decide +kernel
theorem dX8_profitOfSet_4 : decode cX8_profitOfSet 4 = .ok (.pop, 1) := by decide +kernel
theorem dX8_profitOfSet_5 : decode cX8_profitOfSet 5 = .ok (.iconst 0, 1) := by decide +kernel
theorem dX8_profitOfSet_6 : decode cX8_profitOfSet 6 = .ok (.istore_n 2, 1) := by decide +kernel
theorem dX8_profitOfSet_7 : decode cX8_profitOfSet 7 = .ok (.iconst 0, 1) := by decide +kernel
theorem dX8_profitOfSet_8 : decode cX8_profitOfSet 8 = .ok (.istore_n 3, 1) := by decide +kernel
theorem dX8_profitOfSet_9 : decode cX8_profitOfSet 9 = .ok (.iload_n 3, 1) := by decide +kernel
theorem dX8_profitOfSet_10 : decode cX8_profitOfSet 10 = .ok (.aload_n 0, 1) := by decide +kernel
theorem dX8_profitOfSet_11 : decode cX8_profitOfSet 11 = .ok (.getfield 98, 3) := by decide +kernel
theorem dX8_profitOfSet_14 : decode cX8_profitOfSet 14 = .ok (.if_icmp .ge 45, 3) := by decide +kernel
theorem dX8_profitOfSet_17 : decode cX8_profitOfSet 17 = .ok (.iload_n 2, 1) := by decide +kernel
theorem dX8_profitOfSet_18 : decode cX8_profitOfSet 18 = .ok (.iload_n 1, 1) := by decide +kernel
theorem dX8_profitOfSet_19 : decode cX8_profitOfSet 19 = .ok (.iload_n 3, 1) := by decide +kernel
theorem dX8_profitOfSet_20 : decode cX8_profitOfSet 20 = .ok (.ishr, 1) := by decide +kernel
theorem dX8_profitOfSet_21 : decode cX8_profitOfSet 21 = .ok (.iconst 1, 1) := by decide +kernel
theorem dX8_profitOfSet_22 : decode cX8_profitOfSet 22 = .ok (.iand, 1) := by decide +kernel
theorem dX8_profitOfSet_23 : decode cX8_profitOfSet 23 = .ok (.iconst 1, 1) := by decide +kernel
theorem dX8_profitOfSet_24 : decode cX8_profitOfSet 24 = .ok (.if_icmp .ne 26, 3) := by decide +kernel
theorem dX8_profitOfSet_27 : decode cX8_profitOfSet 27 = .ok (.aload_n 0, 1) := by decide +kernel
theorem dX8_profitOfSet_28 : decode cX8_profitOfSet 28 = .ok (.getfield 58, 3) := by decide +kernel
theorem dX8_profitOfSet_31 : decode cX8_profitOfSet 31 = .ok (.iload_n 3, 1) := by decide +kernel
theorem dX8_profitOfSet_32 : decode cX8_profitOfSet 32 = .ok (.iaload, 1) := by decide +kernel
theorem dX8_profitOfSet_33 : decode cX8_profitOfSet 33 = .ok (.aload_n 0, 1) := by decide +kernel
theorem dX8_profitOfSet_34 : decode cX8_profitOfSet 34 = .ok (.getfield 29, 3) := by decide +kernel
theorem dX8_profitOfSet_37 : decode cX8_profitOfSet 37 = .ok (.iload_n 3, 1) := by decide +kernel
theorem dX8_profitOfSet_38 : decode cX8_profitOfSet 38 = .ok (.iaload, 1) := by decide +kernel
theorem dX8_profitOfSet_39 : decode cX8_profitOfSet 39 = .ok (.aload_n 0, 1) := by decide +kernel
theorem dX8_profitOfSet_40 : decode cX8_profitOfSet 40 = .ok (.getfield 26, 3) := by decide +kernel
theorem dX8_profitOfSet_43 : decode cX8_profitOfSet 43 = .ok (.iload_n 3, 1) := by decide +kernel
theorem dX8_profitOfSet_44 : decode cX8_profitOfSet 44 = .ok (.iaload, 1) := by decide +kernel
theorem dX8_profitOfSet_45 : decode cX8_profitOfSet 45 = .ok (.isub, 1) := by decide +kernel
theorem dX8_profitOfSet_46 : decode cX8_profitOfSet 46 = .ok (.imul, 1) := by decide +kernel
theorem dX8_profitOfSet_47 : decode cX8_profitOfSet 47 = .ok (.goto 4, 3) := by decide +kernel
theorem dX8_profitOfSet_50 : decode cX8_profitOfSet 50 = .ok (.iconst 0, 1) := by decide +kernel
theorem dX8_profitOfSet_51 : decode cX8_profitOfSet 51 = .ok (.iadd, 1) := by decide +kernel
theorem dX8_profitOfSet_52 : decode cX8_profitOfSet 52 = .ok (.istore_n 2, 1) := by decide +kernel
theorem dX8_profitOfSet_53 : decode cX8_profitOfSet 53 = .ok (.iinc 3 1, 3) := by decide +kernel
theorem dX8_profitOfSet_56 : decode cX8_profitOfSet 56 = .ok (.goto (-47), 3) := by decide +kernel
theorem dX8_profitOfSet_59 : decode cX8_profitOfSet 59 = .ok (.iload_n 2, 1) := by decide +kernel
theorem dX8_profitOfSet_60 : decode cX8_profitOfSet 60 = .ok (.ireturn, 1) := by decide +kernel
theorem dX8_pays_0 : decode cX8_pays 0 = .ok (.aload_n 0, 1) := by decide +kernel
theorem dX8_pays_1 : decode cX8_pays 1 = .ok (.iload_n 1, 1) := by decide +kernel
theorem dX8_pays_2 : decode cX8_pays 2 = .ok (.invokevirtual 178, 3) := by decide +kernel
theorem dX8_pays_5 : decode cX8_pays 5 = .ok (.istore_n 3, 1) := by decide +kernel
theorem dX8_pays_6 : decode cX8_pays 6 = .ok (.iconst 0, 1) := by decide +kernel
theorem dX8_pays_7 : decode cX8_pays 7 = .ok (.istore 4, 2) := by decide +kernel
theorem dX8_pays_9 : decode cX8_pays 9 = .ok (.iload 4, 2) := by decide +kernel
theorem dX8_pays_11 : decode cX8_pays 11 = .ok (.aload_n 0, 1) := by decide +kernel
theorem dX8_pays_12 : decode cX8_pays 12 = .ok (.getfield 98, 3) := by decide +kernel
theorem dX8_pays_15 : decode cX8_pays 15 = .ok (.if_icmp .ge 74, 3) := by decide +kernel
theorem dX8_pays_18 : decode cX8_pays 18 = .ok (.aload_n 0, 1) := by decide +kernel
theorem dX8_pays_19 : decode cX8_pays 19 = .ok (.getfield 64, 3) := by decide +kernel
theorem dX8_pays_22 : decode cX8_pays 22 = .ok (.iload 4, 2) := by decide +kernel
theorem dX8_pays_24 : decode cX8_pays 24 = .ok (.aload_n 0, 1) := by decide +kernel
theorem dX8_pays_25 : decode cX8_pays 25 = .ok (.getfield 29, 3) := by decide +kernel
theorem dX8_pays_28 : decode cX8_pays 28 = .ok (.iload 4, 2) := by decide +kernel
theorem dX8_pays_30 : decode cX8_pays 30 = .ok (.iaload, 1) := by decide +kernel
theorem dX8_pays_31 : decode cX8_pays 31 = .ok (.iastore, 1) := by decide +kernel
theorem dX8_pays_32 : decode cX8_pays 32 = .ok (.aload_n 0, 1) := by decide +kernel
theorem dX8_pays_33 : decode cX8_pays 33 = .ok (.getfield 29, 3) := by decide +kernel
theorem dX8_pays_36 : decode cX8_pays 36 = .ok (.iload 4, 2) := by decide +kernel
theorem dX8_pays_38 : decode cX8_pays 38 = .ok (.iaload, 1) := by decide +kernel
theorem dX8_pays_39 : decode cX8_pays 39 = .ok (.iload_n 2, 1) := by decide +kernel
theorem dX8_pays_40 : decode cX8_pays 40 = .ok (.iadd, 1) := by decide +kernel
theorem dX8_pays_41 : decode cX8_pays 41 = .ok (.istore 5, 2) := by decide +kernel
theorem dX8_pays_43 : decode cX8_pays 43 = .ok (.aload_n 0, 1) := by decide +kernel
theorem dX8_pays_44 : decode cX8_pays 44 = .ok (.getfield 29, 3) := by decide +kernel
theorem dX8_pays_47 : decode cX8_pays 47 = .ok (.iload 4, 2) := by decide +kernel
theorem dX8_pays_49 : decode cX8_pays 49 = .ok (.iload_n 1, 1) := by decide +kernel
theorem dX8_pays_50 : decode cX8_pays 50 = .ok (.iload 4, 2) := by decide +kernel
theorem dX8_pays_52 : decode cX8_pays 52 = .ok (.ishr, 1) := by decide +kernel
theorem dX8_pays_53 : decode cX8_pays 53 = .ok (.iconst 1, 1) := by decide +kernel
theorem dX8_pays_54 : decode cX8_pays 54 = .ok (.iand, 1) := by decide +kernel
theorem dX8_pays_55 : decode cX8_pays 55 = .ok (.ifCond .ne 13, 3) := by decide +kernel
theorem dX8_pays_58 : decode cX8_pays 58 = .ok (.aload_n 0, 1) := by decide +kernel
theorem dX8_pays_59 : decode cX8_pays 59 = .ok (.getfield 29, 3) := by decide +kernel
theorem dX8_pays_62 : decode cX8_pays 62 = .ok (.iload 4, 2) := by decide +kernel
theorem dX8_pays_64 : decode cX8_pays 64 = .ok (.iaload, 1) := by decide +kernel
theorem dX8_pays_65 : decode cX8_pays 65 = .ok (.goto 17, 3) := by decide +kernel
theorem dX8_pays_68 : decode cX8_pays 68 = .ok (.iload 5, 2) := by decide +kernel
theorem dX8_pays_70 : decode cX8_pays 70 = .ok (.bipush 9, 2) := by decide +kernel
theorem dX8_pays_72 : decode cX8_pays 72 = .ok (.if_icmp .le 8, 3) := by decide +kernel
theorem dX8_pays_75 : decode cX8_pays 75 = .ok (.bipush 9, 2) := by decide +kernel
theorem dX8_pays_77 : decode cX8_pays 77 = .ok (.goto 5, 3) := by decide +kernel
theorem dX8_pays_80 : decode cX8_pays 80 = .ok (.iload 5, 2) := by decide +kernel
theorem dX8_pays_82 : decode cX8_pays 82 = .ok (.iastore, 1) := by decide +kernel
theorem dX8_pays_83 : decode cX8_pays 83 = .ok (.iinc 4 1, 3) := by decide +kernel
theorem dX8_pays_86 : decode cX8_pays 86 = .ok (.goto (-77), 3) := by decide +kernel
theorem dX8_pays_89 : decode cX8_pays 89 = .ok (.aload_n 0, 1) := by decide +kernel
theorem dX8_pays_90 : decode cX8_pays 90 = .ok (.iload_n 1, 1) := by decide +kernel
theorem dX8_pays_91 : decode cX8_pays 91 = .ok (.invokevirtual 178, 3) := by decide +kernel
theorem dX8_pays_94 : decode cX8_pays 94 = .ok (.istore 4, 2) := by decide +kernel
theorem dX8_pays_96 : decode cX8_pays 96 = .ok (.iconst 0, 1) := by decide +kernel
theorem dX8_pays_97 : decode cX8_pays 97 = .ok (.istore 5, 2) := by decide +kernel
theorem dX8_pays_99 : decode cX8_pays 99 = .ok (.iload 5, 2) := by decide +kernel
theorem dX8_pays_101 : decode cX8_pays 101 = .ok (.aload_n 0, 1) := by decide +kernel
theorem dX8_pays_102 : decode cX8_pays 102 = .ok (.getfield 98, 3) := by decide +kernel
theorem dX8_pays_105 : decode cX8_pays 105 = .ok (.if_icmp .ge 23, 3) := by decide +kernel
theorem dX8_pays_108 : decode cX8_pays 108 = .ok (.aload_n 0, 1) := by decide +kernel
theorem dX8_pays_109 : decode cX8_pays 109 = .ok (.getfield 29, 3) := by decide +kernel
theorem dX8_pays_112 : decode cX8_pays 112 = .ok (.iload 5, 2) := by decide +kernel
theorem dX8_pays_114 : decode cX8_pays 114 = .ok (.aload_n 0, 1) := by decide +kernel
theorem dX8_pays_115 : decode cX8_pays 115 = .ok (.getfield 64, 3) := by decide +kernel
theorem dX8_pays_118 : decode cX8_pays 118 = .ok (.iload 5, 2) := by decide +kernel
theorem dX8_pays_120 : decode cX8_pays 120 = .ok (.iaload, 1) := by decide +kernel
theorem dX8_pays_121 : decode cX8_pays 121 = .ok (.iastore, 1) := by decide +kernel
theorem dX8_pays_122 : decode cX8_pays 122 = .ok (.iinc 5 1, 3) := by decide +kernel
theorem dX8_pays_125 : decode cX8_pays 125 = .ok (.goto (-26), 3) := by decide +kernel
theorem dX8_pays_128 : decode cX8_pays 128 = .ok (.iload 4, 2) := by decide +kernel
theorem dX8_pays_130 : decode cX8_pays 130 = .ok (.iload_n 3, 1) := by decide +kernel
theorem dX8_pays_131 : decode cX8_pays 131 = .ok (.if_icmp .lt 7, 3) := by decide +kernel
theorem dX8_pays_134 : decode cX8_pays 134 = .ok (.iconst 1, 1) := by decide +kernel
theorem dX8_pays_135 : decode cX8_pays 135 = .ok (.goto 4, 3) := by decide +kernel
theorem dX8_pays_138 : decode cX8_pays 138 = .ok (.iconst 0, 1) := by decide +kernel
theorem dX8_pays_139 : decode cX8_pays 139 = .ok (.ireturn, 1) := by decide +kernel
theorem dX8_openSet_0 : decode cX8_openSet 0 = .ok (.iconst 0, 1) := by decide +kernel
theorem dX8_openSet_1 : decode cX8_openSet 1 = .ok (.istore_n 1, 1) := by decide +kernel
theorem dX8_openSet_2 : decode cX8_openSet 2 = .ok (.iconst 0, 1) := by decide +kernel
theorem dX8_openSet_3 : decode cX8_openSet 3 = .ok (.istore_n 2, 1) := by decide +kernel
theorem dX8_openSet_4 : decode cX8_openSet 4 = .ok (.iload_n 2, 1) := by decide +kernel
theorem dX8_openSet_5 : decode cX8_openSet 5 = .ok (.aload_n 0, 1) := by decide +kernel
theorem dX8_openSet_6 : decode cX8_openSet 6 = .ok (.getfield 98, 3) := by decide +kernel
theorem dX8_openSet_9 : decode cX8_openSet 9 = .ok (.if_icmp .ge 27, 3) := by decide +kernel
theorem dX8_openSet_12 : decode cX8_openSet 12 = .ok (.iload_n 1, 1) := by decide +kernel
theorem dX8_openSet_13 : decode cX8_openSet 13 = .ok (.aload_n 0, 1) := by decide +kernel
theorem dX8_openSet_14 : decode cX8_openSet 14 = .ok (.iload_n 2, 1) := by decide +kernel
theorem dX8_openSet_15 : decode cX8_openSet 15 = .ok (.invokevirtual 119, 3) := by decide +kernel
theorem dX8_openSet_18 : decode cX8_openSet 18 = .ok (.ifCond .eq 9, 3) := by decide +kernel
theorem dX8_openSet_21 : decode cX8_openSet 21 = .ok (.iconst 1, 1) := by decide +kernel
theorem dX8_openSet_22 : decode cX8_openSet 22 = .ok (.iload_n 2, 1) := by decide +kernel
theorem dX8_openSet_23 : decode cX8_openSet 23 = .ok (.ishl, 1) := by decide +kernel
theorem dX8_openSet_24 : decode cX8_openSet 24 = .ok (.goto 4, 3) := by decide +kernel
theorem dX8_openSet_27 : decode cX8_openSet 27 = .ok (.iconst 0, 1) := by decide +kernel
theorem dX8_openSet_28 : decode cX8_openSet 28 = .ok (.ior, 1) := by decide +kernel
theorem dX8_openSet_29 : decode cX8_openSet 29 = .ok (.istore_n 1, 1) := by decide +kernel
theorem dX8_openSet_30 : decode cX8_openSet 30 = .ok (.iinc 2 1, 3) := by decide +kernel
theorem dX8_openSet_33 : decode cX8_openSet 33 = .ok (.goto (-29), 3) := by decide +kernel
theorem dX8_openSet_36 : decode cX8_openSet 36 = .ok (.iload_n 1, 1) := by decide +kernel
theorem dX8_openSet_37 : decode cX8_openSet 37 = .ok (.ireturn, 1) := by decide +kernel
theorem dX8_ones_0 : decode cX8_ones 0 = .ok (.iconst 0, 1) := by decide +kernel
theorem dX8_ones_1 : decode cX8_ones 1 = .ok (.istore_n 1, 1) := by decide +kernel
theorem dX8_ones_2 : decode cX8_ones 2 = .ok (.iload_n 0, 1) := by decide +kernel
theorem dX8_ones_3 : decode cX8_ones 3 = .ok (.istore_n 2, 1) := by decide +kernel
theorem dX8_ones_4 : decode cX8_ones 4 = .ok (.iload_n 2, 1) := by decide +kernel
theorem dX8_ones_5 : decode cX8_ones 5 = .ok (.ifCond .eq 15, 3) := by decide +kernel
theorem dX8_ones_8 : decode cX8_ones 8 = .ok (.iinc 1 1, 3) := by decide +kernel
theorem dX8_ones_11 : decode cX8_ones 11 = .ok (.iload_n 2, 1) := by decide +kernel
theorem dX8_ones_12 : decode cX8_ones 12 = .ok (.iload_n 2, 1) := by decide +kernel
theorem dX8_ones_13 : decode cX8_ones 13 = .ok (.iconst 1, 1) := by decide +kernel
theorem dX8_ones_14 : decode cX8_ones 14 = .ok (.isub, 1) := by decide +kernel
theorem dX8_ones_15 : decode cX8_ones 15 = .ok (.iand, 1) := by decide +kernel
theorem dX8_ones_16 : decode cX8_ones 16 = .ok (.istore_n 2, 1) := by decide +kernel
theorem dX8_ones_17 : decode cX8_ones 17 = .ok (.goto (-13), 3) := by decide +kernel
theorem dX8_ones_20 : decode cX8_ones 20 = .ok (.iload_n 1, 1) := by decide +kernel
theorem dX8_ones_21 : decode cX8_ones 21 = .ok (.ireturn, 1) := by decide +kernel
theorem dX8_nearestMarket_0 : decode cX8_nearestMarket 0 = .ok (.iconst 1, 1) := by decide +kernel
theorem dX8_nearestMarket_1 : decode cX8_nearestMarket 1 = .ok (.iload_n 1, 1) := by decide +kernel
theorem dX8_nearestMarket_2 : decode cX8_nearestMarket 2 = .ok (.ishl, 1) := by decide +kernel
theorem dX8_nearestMarket_3 : decode cX8_nearestMarket 3 = .ok (.istore_n 3, 1) := by decide +kernel
theorem dX8_nearestMarket_4 : decode cX8_nearestMarket 4 = .ok (.aload_n 0, 1) := by decide +kernel
theorem dX8_nearestMarket_5 : decode cX8_nearestMarket 5 = .ok (.invokevirtual 181, 3) := by decide +kernel
theorem dX8_nearestMarket_8 : decode cX8_nearestMarket 8 = .ok (.istore 4, 2) := by decide +kernel
theorem dX8_nearestMarket_10 : decode cX8_nearestMarket 10 = .ok (.iload_n 3, 1) := by decide +kernel
theorem dX8_nearestMarket_11 : decode cX8_nearestMarket 11 = .ok (.iconst (-1), 1) := by decide +kernel
theorem dX8_nearestMarket_12 : decode cX8_nearestMarket 12 = .ok (.if_icmp .eq 137, 3) := by decide +kernel
theorem dX8_nearestMarket_15 : decode cX8_nearestMarket 15 = .ok (.aload_n 0, 1) := by decide +kernel
theorem dX8_nearestMarket_16 : decode cX8_nearestMarket 16 = .ok (.iload_n 3, 1) := by decide +kernel
theorem dX8_nearestMarket_17 : decode cX8_nearestMarket 17 = .ok (.iload_n 2, 1) := by decide +kernel
theorem dX8_nearestMarket_18 : decode cX8_nearestMarket 18 = .ok (.invokevirtual 184, 3) := by decide +kernel
theorem dX8_nearestMarket_21 : decode cX8_nearestMarket 21 = .ok (.ifCond .ne 128, 3) := by decide +kernel
theorem dX8_nearestMarket_24 : decode cX8_nearestMarket 24 = .ok (.iconst (-1), 1) := by decide +kernel
theorem dX8_nearestMarket_25 : decode cX8_nearestMarket 25 = .ok (.istore 5, 2) := by decide +kernel
theorem dX8_nearestMarket_27 : decode cX8_nearestMarket 27 = .ok (.iconst 0, 1) := by decide +kernel
theorem dX8_nearestMarket_28 : decode cX8_nearestMarket 28 = .ok (.istore 6, 2) := by decide +kernel
theorem dX8_nearestMarket_30 : decode cX8_nearestMarket 30 = .ok (.iload 6, 2) := by decide +kernel
theorem dX8_nearestMarket_32 : decode cX8_nearestMarket 32 = .ok (.aload_n 0, 1) := by decide +kernel
theorem dX8_nearestMarket_33 : decode cX8_nearestMarket 33 = .ok (.getfield 98, 3) := by decide +kernel
theorem dX8_nearestMarket_36 : decode cX8_nearestMarket 36 = .ok (.if_icmp .ge 93, 3) := by decide +kernel
theorem dX8_nearestMarket_39 : decode cX8_nearestMarket 39 = .ok (.iload 4, 2) := by decide +kernel
theorem dX8_nearestMarket_41 : decode cX8_nearestMarket 41 = .ok (.iload 6, 2) := by decide +kernel
theorem dX8_nearestMarket_43 : decode cX8_nearestMarket 43 = .ok (.ishr, 1) := by decide +kernel
theorem dX8_nearestMarket_44 : decode cX8_nearestMarket 44 = .ok (.iconst 1, 1) := by decide +kernel
theorem dX8_nearestMarket_45 : decode cX8_nearestMarket 45 = .ok (.iand, 1) := by decide +kernel
theorem dX8_nearestMarket_46 : decode cX8_nearestMarket 46 = .ok (.iconst 1, 1) := by decide +kernel
theorem dX8_nearestMarket_47 : decode cX8_nearestMarket 47 = .ok (.if_icmp .ne 16, 3) := by decide +kernel
theorem dX8_nearestMarket_50 : decode cX8_nearestMarket 50 = .ok (.iload_n 3, 1) := by decide +kernel
theorem dX8_nearestMarket_51 : decode cX8_nearestMarket 51 = .ok (.iload 6, 2) := by decide +kernel
theorem dX8_nearestMarket_53 : decode cX8_nearestMarket 53 = .ok (.ishr, 1) := by decide +kernel
theorem dX8_nearestMarket_54 : decode cX8_nearestMarket 54 = .ok (.iconst 1, 1) := by decide +kernel
theorem dX8_nearestMarket_55 : decode cX8_nearestMarket 55 = .ok (.iand, 1) := by decide +kernel
theorem dX8_nearestMarket_56 : decode cX8_nearestMarket 56 = .ok (.ifCond .ne 7, 3) := by decide +kernel
theorem dX8_nearestMarket_59 : decode cX8_nearestMarket 59 = .ok (.iconst 1, 1) := by decide +kernel
theorem dX8_nearestMarket_60 : decode cX8_nearestMarket 60 = .ok (.goto 4, 3) := by decide +kernel
theorem dX8_nearestMarket_63 : decode cX8_nearestMarket 63 = .ok (.iconst 0, 1) := by decide +kernel
theorem dX8_nearestMarket_64 : decode cX8_nearestMarket 64 = .ok (.istore 7, 2) := by decide +kernel
theorem dX8_nearestMarket_66 : decode cX8_nearestMarket 66 = .ok (.iload 7, 2) := by decide +kernel
theorem dX8_nearestMarket_68 : decode cX8_nearestMarket 68 = .ok (.ifCond .eq 51, 3) := by decide +kernel
theorem dX8_nearestMarket_71 : decode cX8_nearestMarket 71 = .ok (.iload 5, 2) := by decide +kernel
theorem dX8_nearestMarket_73 : decode cX8_nearestMarket 73 = .ok (.iconst (-1), 1) := by decide +kernel
theorem dX8_nearestMarket_74 : decode cX8_nearestMarket 74 = .ok (.if_icmp .eq 40, 3) := by decide +kernel
theorem dX8_nearestMarket_77 : decode cX8_nearestMarket 77 = .ok (.aload_n 0, 1) := by decide +kernel
theorem dX8_nearestMarket_78 : decode cX8_nearestMarket 78 = .ok (.getfield 23, 3) := by decide +kernel
theorem dX8_nearestMarket_81 : decode cX8_nearestMarket 81 = .ok (.iload 6, 2) := by decide +kernel
theorem dX8_nearestMarket_83 : decode cX8_nearestMarket 83 = .ok (.iaload, 1) := by decide +kernel
theorem dX8_nearestMarket_84 : decode cX8_nearestMarket 84 = .ok (.aload_n 0, 1) := by decide +kernel
theorem dX8_nearestMarket_85 : decode cX8_nearestMarket 85 = .ok (.getfield 23, 3) := by decide +kernel
theorem dX8_nearestMarket_88 : decode cX8_nearestMarket 88 = .ok (.iload_n 1, 1) := by decide +kernel
theorem dX8_nearestMarket_89 : decode cX8_nearestMarket 89 = .ok (.iaload, 1) := by decide +kernel
theorem dX8_nearestMarket_90 : decode cX8_nearestMarket 90 = .ok (.isub, 1) := by decide +kernel
theorem dX8_nearestMarket_91 : decode cX8_nearestMarket 91 = .ok (.invokestatic 116, 3) := by decide +kernel
theorem dX8_nearestMarket_94 : decode cX8_nearestMarket 94 = .ok (.aload_n 0, 1) := by decide +kernel
theorem dX8_nearestMarket_95 : decode cX8_nearestMarket 95 = .ok (.getfield 23, 3) := by decide +kernel
theorem dX8_nearestMarket_98 : decode cX8_nearestMarket 98 = .ok (.iload 5, 2) := by decide +kernel
theorem dX8_nearestMarket_100 : decode cX8_nearestMarket 100 = .ok (.iaload, 1) := by decide +kernel
theorem dX8_nearestMarket_101 : decode cX8_nearestMarket 101 = .ok (.aload_n 0, 1) := by decide +kernel
theorem dX8_nearestMarket_102 : decode cX8_nearestMarket 102 = .ok (.getfield 23, 3) := by decide +kernel
theorem dX8_nearestMarket_105 : decode cX8_nearestMarket 105 = .ok (.iload_n 1, 1) := by decide +kernel
theorem dX8_nearestMarket_106 : decode cX8_nearestMarket 106 = .ok (.iaload, 1) := by decide +kernel
theorem dX8_nearestMarket_107 : decode cX8_nearestMarket 107 = .ok (.isub, 1) := by decide +kernel
theorem dX8_nearestMarket_108 : decode cX8_nearestMarket 108 = .ok (.invokestatic 116, 3) := by decide +kernel
theorem dX8_nearestMarket_111 : decode cX8_nearestMarket 111 = .ok (.if_icmp .ge 8, 3) := by decide +kernel
theorem dX8_nearestMarket_114 : decode cX8_nearestMarket 114 = .ok (.iload 6, 2) := by decide +kernel
theorem dX8_nearestMarket_116 : decode cX8_nearestMarket 116 = .ok (.goto 5, 3) := by decide +kernel
theorem dX8_nearestMarket_119 : decode cX8_nearestMarket 119 = .ok (.iload 5, 2) := by decide +kernel
theorem dX8_nearestMarket_121 : decode cX8_nearestMarket 121 = .ok (.istore 5, 2) := by decide +kernel
theorem dX8_nearestMarket_123 : decode cX8_nearestMarket 123 = .ok (.iinc 6 1, 3) := by decide +kernel
theorem dX8_nearestMarket_126 : decode cX8_nearestMarket 126 = .ok (.goto (-96), 3) := by decide +kernel
theorem dX8_nearestMarket_129 : decode cX8_nearestMarket 129 = .ok (.iload 5, 2) := by decide +kernel
theorem dX8_nearestMarket_131 : decode cX8_nearestMarket 131 = .ok (.iconst (-1), 1) := by decide +kernel
theorem dX8_nearestMarket_132 : decode cX8_nearestMarket 132 = .ok (.if_icmp .ne 7, 3) := by decide +kernel
theorem dX8_nearestMarket_135 : decode cX8_nearestMarket 135 = .ok (.iconst (-1), 1) := by decide +kernel
theorem dX8_nearestMarket_136 : decode cX8_nearestMarket 136 = .ok (.goto 9, 3) := by decide +kernel
theorem dX8_nearestMarket_139 : decode cX8_nearestMarket 139 = .ok (.iload_n 3, 1) := by decide +kernel
theorem dX8_nearestMarket_140 : decode cX8_nearestMarket 140 = .ok (.iconst 1, 1) := by decide +kernel
theorem dX8_nearestMarket_141 : decode cX8_nearestMarket 141 = .ok (.iload 5, 2) := by decide +kernel
theorem dX8_nearestMarket_143 : decode cX8_nearestMarket 143 = .ok (.ishl, 1) := by decide +kernel
theorem dX8_nearestMarket_144 : decode cX8_nearestMarket 144 = .ok (.ior, 1) := by decide +kernel
theorem dX8_nearestMarket_145 : decode cX8_nearestMarket 145 = .ok (.istore_n 3, 1) := by decide +kernel
theorem dX8_nearestMarket_146 : decode cX8_nearestMarket 146 = .ok (.goto (-136), 3) := by decide +kernel
theorem dX8_nearestMarket_149 : decode cX8_nearestMarket 149 = .ok (.iload_n 3, 1) := by decide +kernel
theorem dX8_nearestMarket_150 : decode cX8_nearestMarket 150 = .ok (.ireturn, 1) := by decide +kernel
theorem dX8_leastMarket_0 : decode cX8_leastMarket 0 = .ok (.aload_n 0, 1) := by decide +kernel
theorem dX8_leastMarket_1 : decode cX8_leastMarket 1 = .ok (.invokevirtual 181, 3) := by decide +kernel
theorem dX8_leastMarket_4 : decode cX8_leastMarket 4 = .ok (.istore_n 3, 1) := by decide +kernel
theorem dX8_leastMarket_5 : decode cX8_leastMarket 5 = .ok (.iconst (-1), 1) := by decide +kernel
theorem dX8_leastMarket_6 : decode cX8_leastMarket 6 = .ok (.istore 4, 2) := by decide +kernel
theorem dX8_leastMarket_8 : decode cX8_leastMarket 8 = .ok (.iconst 1, 1) := by decide +kernel
theorem dX8_leastMarket_9 : decode cX8_leastMarket 9 = .ok (.istore 5, 2) := by decide +kernel
theorem dX8_leastMarket_11 : decode cX8_leastMarket 11 = .ok (.iload 5, 2) := by decide +kernel
theorem dX8_leastMarket_13 : decode cX8_leastMarket 13 = .ok (.iconst 1, 1) := by decide +kernel
theorem dX8_leastMarket_14 : decode cX8_leastMarket 14 = .ok (.aload_n 0, 1) := by decide +kernel
theorem dX8_leastMarket_15 : decode cX8_leastMarket 15 = .ok (.getfield 98, 3) := by decide +kernel
theorem dX8_leastMarket_18 : decode cX8_leastMarket 18 = .ok (.ishl, 1) := by decide +kernel
theorem dX8_leastMarket_19 : decode cX8_leastMarket 19 = .ok (.if_icmp .ge 78, 3) := by decide +kernel
theorem dX8_leastMarket_22 : decode cX8_leastMarket 22 = .ok (.iload 5, 2) := by decide +kernel
theorem dX8_leastMarket_24 : decode cX8_leastMarket 24 = .ok (.iload_n 3, 1) := by decide +kernel
theorem dX8_leastMarket_25 : decode cX8_leastMarket 25 = .ok (.iconst (-1), 1) := by decide +kernel
theorem dX8_leastMarket_26 : decode cX8_leastMarket 26 = .ok (.ixor, 1) := by decide +kernel
theorem dX8_leastMarket_27 : decode cX8_leastMarket 27 = .ok (.iand, 1) := by decide +kernel
theorem dX8_leastMarket_28 : decode cX8_leastMarket 28 = .ok (.ifCond .ne 36, 3) := by decide +kernel
theorem dX8_leastMarket_31 : decode cX8_leastMarket 31 = .ok (.iload 5, 2) := by decide +kernel
theorem dX8_leastMarket_33 : decode cX8_leastMarket 33 = .ok (.iload_n 1, 1) := by decide +kernel
theorem dX8_leastMarket_34 : decode cX8_leastMarket 34 = .ok (.ishr, 1) := by decide +kernel
theorem dX8_leastMarket_35 : decode cX8_leastMarket 35 = .ok (.iconst 1, 1) := by decide +kernel
theorem dX8_leastMarket_36 : decode cX8_leastMarket 36 = .ok (.iand, 1) := by decide +kernel
theorem dX8_leastMarket_37 : decode cX8_leastMarket 37 = .ok (.iconst 1, 1) := by decide +kernel
theorem dX8_leastMarket_38 : decode cX8_leastMarket 38 = .ok (.if_icmp .ne 26, 3) := by decide +kernel
theorem dX8_leastMarket_41 : decode cX8_leastMarket 41 = .ok (.iload 4, 2) := by decide +kernel
theorem dX8_leastMarket_43 : decode cX8_leastMarket 43 = .ok (.iconst (-1), 1) := by decide +kernel
theorem dX8_leastMarket_44 : decode cX8_leastMarket 44 = .ok (.if_icmp .eq 16, 3) := by decide +kernel
theorem dX8_leastMarket_47 : decode cX8_leastMarket 47 = .ok (.iload 5, 2) := by decide +kernel
theorem dX8_leastMarket_49 : decode cX8_leastMarket 49 = .ok (.invokestatic 188, 3) := by decide +kernel
theorem dX8_leastMarket_52 : decode cX8_leastMarket 52 = .ok (.iload 4, 2) := by decide +kernel
theorem dX8_leastMarket_54 : decode cX8_leastMarket 54 = .ok (.invokestatic 188, 3) := by decide +kernel
theorem dX8_leastMarket_57 : decode cX8_leastMarket 57 = .ok (.if_icmp .ge 7, 3) := by decide +kernel
theorem dX8_leastMarket_60 : decode cX8_leastMarket 60 = .ok (.iconst 1, 1) := by decide +kernel
theorem dX8_leastMarket_61 : decode cX8_leastMarket 61 = .ok (.goto 4, 3) := by decide +kernel
theorem dX8_leastMarket_64 : decode cX8_leastMarket 64 = .ok (.iconst 0, 1) := by decide +kernel
theorem dX8_leastMarket_65 : decode cX8_leastMarket 65 = .ok (.istore 6, 2) := by decide +kernel
theorem dX8_leastMarket_67 : decode cX8_leastMarket 67 = .ok (.iload 6, 2) := by decide +kernel
theorem dX8_leastMarket_69 : decode cX8_leastMarket 69 = .ok (.ifCond .eq 18, 3) := by decide +kernel
theorem dX8_leastMarket_72 : decode cX8_leastMarket 72 = .ok (.aload_n 0, 1) := by decide +kernel
theorem dX8_leastMarket_73 : decode cX8_leastMarket 73 = .ok (.iload 5, 2) := by decide +kernel
theorem dX8_leastMarket_75 : decode cX8_leastMarket 75 = .ok (.iload_n 2, 1) := by decide +kernel
theorem dX8_leastMarket_76 : decode cX8_leastMarket 76 = .ok (.invokevirtual 184, 3) := by decide +kernel
theorem dX8_leastMarket_79 : decode cX8_leastMarket 79 = .ok (.ifCond .eq 8, 3) := by decide +kernel
theorem dX8_leastMarket_82 : decode cX8_leastMarket 82 = .ok (.iload 5, 2) := by decide +kernel
theorem dX8_leastMarket_84 : decode cX8_leastMarket 84 = .ok (.goto 5, 3) := by decide +kernel
theorem dX8_leastMarket_87 : decode cX8_leastMarket 87 = .ok (.iload 4, 2) := by decide +kernel
theorem dX8_leastMarket_89 : decode cX8_leastMarket 89 = .ok (.istore 4, 2) := by decide +kernel
theorem dX8_leastMarket_91 : decode cX8_leastMarket 91 = .ok (.iinc 5 1, 3) := by decide +kernel
theorem dX8_leastMarket_94 : decode cX8_leastMarket 94 = .ok (.goto (-83), 3) := by decide +kernel
theorem dX8_leastMarket_97 : decode cX8_leastMarket 97 = .ok (.iload 4, 2) := by decide +kernel
theorem dX8_leastMarket_99 : decode cX8_leastMarket 99 = .ok (.ireturn, 1) := by decide +kernel
theorem dX8_market_0 : decode cX8_market 0 = .ok (.aload_n 0, 1) := by decide +kernel
theorem dX8_market_1 : decode cX8_market 1 = .ok (.iload_n 1, 1) := by decide +kernel
theorem dX8_market_2 : decode cX8_market 2 = .ok (.invokevirtual 132, 3) := by decide +kernel
theorem dX8_market_5 : decode cX8_market 5 = .ok (.ifCond .ne 6, 3) := by decide +kernel
theorem dX8_market_8 : decode cX8_market 8 = .ok (.bipush (-101), 2) := by decide +kernel
theorem dX8_market_10 : decode cX8_market 10 = .ok (.ireturn, 1) := by decide +kernel
theorem dX8_market_11 : decode cX8_market 11 = .ok (.iload_n 2, 1) := by decide +kernel
theorem dX8_market_12 : decode cX8_market 12 = .ok (.iconst 1, 1) := by decide +kernel
theorem dX8_market_13 : decode cX8_market 13 = .ok (.iconst 5, 1) := by decide +kernel
theorem dX8_market_14 : decode cX8_market 14 = .ok (.invokestatic 94, 3) := by decide +kernel
theorem dX8_market_17 : decode cX8_market 17 = .ok (.ifCond .ne 6, 3) := by decide +kernel
theorem dX8_market_20 : decode cX8_market 20 = .ok (.bipush (-102), 2) := by decide +kernel
theorem dX8_market_22 : decode cX8_market 22 = .ok (.ireturn, 1) := by decide +kernel
theorem dX8_market_23 : decode cX8_market 23 = .ok (.aload_n 0, 1) := by decide +kernel
theorem dX8_market_24 : decode cX8_market 24 = .ok (.iload_n 1, 1) := by decide +kernel
theorem dX8_market_25 : decode cX8_market 25 = .ok (.invokevirtual 119, 3) := by decide +kernel
theorem dX8_market_28 : decode cX8_market 28 = .ok (.ifCond .ne 6, 3) := by decide +kernel
theorem dX8_market_31 : decode cX8_market 31 = .ok (.bipush (-103), 2) := by decide +kernel
theorem dX8_market_33 : decode cX8_market 33 = .ok (.ireturn, 1) := by decide +kernel
theorem dX8_market_34 : decode cX8_market 34 = .ok (.iload_n 3, 1) := by decide +kernel
theorem dX8_market_35 : decode cX8_market 35 = .ok (.ifCond .eq 12, 3) := by decide +kernel
theorem dX8_market_38 : decode cX8_market 38 = .ok (.aload_n 0, 1) := by decide +kernel
theorem dX8_market_39 : decode cX8_market 39 = .ok (.iload_n 1, 1) := by decide +kernel
theorem dX8_market_40 : decode cX8_market 40 = .ok (.iload_n 2, 1) := by decide +kernel
theorem dX8_market_41 : decode cX8_market 41 = .ok (.invokevirtual 191, 3) := by decide +kernel
theorem dX8_market_44 : decode cX8_market 44 = .ok (.goto 9, 3) := by decide +kernel
theorem dX8_market_47 : decode cX8_market 47 = .ok (.aload_n 0, 1) := by decide +kernel
theorem dX8_market_48 : decode cX8_market 48 = .ok (.iload_n 1, 1) := by decide +kernel
theorem dX8_market_49 : decode cX8_market 49 = .ok (.iload_n 2, 1) := by decide +kernel
theorem dX8_market_50 : decode cX8_market 50 = .ok (.invokevirtual 194, 3) := by decide +kernel
theorem dX8_market_53 : decode cX8_market 53 = .ok (.ireturn, 1) := by decide +kernel
theorem dX8_insteadOf_0 : decode cX8_insteadOf 0 = .ok (.aload_n 0, 1) := by decide +kernel
theorem dX8_insteadOf_1 : decode cX8_insteadOf 1 = .ok (.iload_n 2, 1) := by decide +kernel
theorem dX8_insteadOf_2 : decode cX8_insteadOf 2 = .ok (.putfield 54, 3) := by decide +kernel
theorem dX8_insteadOf_5 : decode cX8_insteadOf 5 = .ok (.aload_n 0, 1) := by decide +kernel
theorem dX8_insteadOf_6 : decode cX8_insteadOf 6 = .ok (.iload_n 1, 1) := by decide +kernel
theorem dX8_insteadOf_7 : decode cX8_insteadOf 7 = .ok (.invokevirtual 125, 3) := by decide +kernel
theorem dX8_insteadOf_10 : decode cX8_insteadOf 10 = .ok (.istore_n 3, 1) := by decide +kernel
theorem dX8_insteadOf_11 : decode cX8_insteadOf 11 = .ok (.aload_n 0, 1) := by decide +kernel
theorem dX8_insteadOf_12 : decode cX8_insteadOf 12 = .ok (.iconst (-1), 1) := by decide +kernel
theorem dX8_insteadOf_13 : decode cX8_insteadOf 13 = .ok (.putfield 54, 3) := by decide +kernel
theorem dX8_insteadOf_16 : decode cX8_insteadOf 16 = .ok (.iload_n 3, 1) := by decide +kernel
theorem dX8_insteadOf_17 : decode cX8_insteadOf 17 = .ok (.ireturn, 1) := by decide +kernel
theorem dX8_instead_0 : decode cX8_instead 0 = .ok (.aload_n 0, 1) := by decide +kernel
theorem dX8_instead_1 : decode cX8_instead 1 = .ok (.iload_n 1, 1) := by decide +kernel
theorem dX8_instead_2 : decode cX8_instead 2 = .ok (.invokevirtual 138, 3) := by decide +kernel
theorem dX8_instead_5 : decode cX8_instead 5 = .ok (.ifCond .eq 20, 3) := by decide +kernel
theorem dX8_instead_8 : decode cX8_instead 8 = .ok (.aload_n 0, 1) := by decide +kernel
theorem dX8_instead_9 : decode cX8_instead 9 = .ok (.iload_n 2, 1) := by decide +kernel
theorem dX8_instead_10 : decode cX8_instead 10 = .ok (.invokevirtual 132, 3) := by decide +kernel
theorem dX8_instead_13 : decode cX8_instead 13 = .ok (.ifCond .eq 12, 3) := by decide +kernel
theorem dX8_instead_16 : decode cX8_instead 16 = .ok (.aload_n 0, 1) := by decide +kernel
theorem dX8_instead_17 : decode cX8_instead 17 = .ok (.iload_n 1, 1) := by decide +kernel
theorem dX8_instead_18 : decode cX8_instead 18 = .ok (.iload_n 2, 1) := by decide +kernel
theorem dX8_instead_19 : decode cX8_instead 19 = .ok (.invokevirtual 197, 3) := by decide +kernel
theorem dX8_instead_22 : decode cX8_instead 22 = .ok (.goto 5, 3) := by decide +kernel
theorem dX8_instead_25 : decode cX8_instead 25 = .ok (.bipush (-101), 2) := by decide +kernel
theorem dX8_instead_27 : decode cX8_instead 27 = .ok (.ireturn, 1) := by decide +kernel
theorem dX8_from_0 : decode cX8_from 0 = .ok (.aload_n 0, 1) := by decide +kernel
theorem dX8_from_1 : decode cX8_from 1 = .ok (.iload_n 1, 1) := by decide +kernel
theorem dX8_from_2 : decode cX8_from 2 = .ok (.invokevirtual 132, 3) := by decide +kernel
theorem dX8_from_5 : decode cX8_from 5 = .ok (.ifCond .eq 16, 3) := by decide +kernel
theorem dX8_from_8 : decode cX8_from 8 = .ok (.aload_n 0, 1) := by decide +kernel
theorem dX8_from_9 : decode cX8_from 9 = .ok (.iload_n 2, 1) := by decide +kernel
theorem dX8_from_10 : decode cX8_from 10 = .ok (.invokevirtual 132, 3) := by decide +kernel
theorem dX8_from_13 : decode cX8_from 13 = .ok (.ifCond .eq 8, 3) := by decide +kernel
theorem dX8_from_16 : decode cX8_from 16 = .ok (.iload_n 1, 1) := by decide +kernel
theorem dX8_from_17 : decode cX8_from 17 = .ok (.iload_n 2, 1) := by decide +kernel
theorem dX8_from_18 : decode cX8_from 18 = .ok (.if_icmp .ne 6, 3) := by decide +kernel
theorem dX8_from_21 : decode cX8_from 21 = .ok (.bipush (-101), 2) := by decide +kernel
theorem dX8_from_23 : decode cX8_from 23 = .ok (.ireturn, 1) := by decide +kernel
theorem dX8_from_24 : decode cX8_from 24 = .ok (.iconst 0, 1) := by decide +kernel
theorem dX8_from_25 : decode cX8_from 25 = .ok (.istore_n 3, 1) := by decide +kernel
theorem dX8_from_26 : decode cX8_from 26 = .ok (.iconst 0, 1) := by decide +kernel
theorem dX8_from_27 : decode cX8_from 27 = .ok (.istore 4, 2) := by decide +kernel
theorem dX8_from_29 : decode cX8_from 29 = .ok (.iload 4, 2) := by decide +kernel
theorem dX8_from_31 : decode cX8_from 31 = .ok (.aload_n 0, 1) := by decide +kernel
theorem dX8_from_32 : decode cX8_from 32 = .ok (.getfield 101, 3) := by decide +kernel
theorem dX8_from_35 : decode cX8_from 35 = .ok (.if_icmp .ge 44, 3) := by decide +kernel
theorem dX8_from_38 : decode cX8_from 38 = .ok (.iload_n 3, 1) := by decide +kernel
theorem dX8_from_39 : decode cX8_from 39 = .ok (.aload_n 0, 1) := by decide +kernel
theorem dX8_from_40 : decode cX8_from 40 = .ok (.iload 4, 2) := by decide +kernel
theorem dX8_from_42 : decode cX8_from 42 = .ok (.invokevirtual 125, 3) := by decide +kernel
theorem dX8_from_45 : decode cX8_from 45 = .ok (.iload_n 1, 1) := by decide +kernel
theorem dX8_from_46 : decode cX8_from 46 = .ok (.if_icmp .ne 24, 3) := by decide +kernel
theorem dX8_from_49 : decode cX8_from 49 = .ok (.aload_n 0, 1) := by decide +kernel
theorem dX8_from_50 : decode cX8_from 50 = .ok (.iload 4, 2) := by decide +kernel
theorem dX8_from_52 : decode cX8_from 52 = .ok (.iload_n 1, 1) := by decide +kernel
theorem dX8_from_53 : decode cX8_from 53 = .ok (.invokevirtual 197, 3) := by decide +kernel
theorem dX8_from_56 : decode cX8_from 56 = .ok (.iload_n 2, 1) := by decide +kernel
theorem dX8_from_57 : decode cX8_from 57 = .ok (.if_icmp .ne 13, 3) := by decide +kernel
theorem dX8_from_60 : decode cX8_from 60 = .ok (.aload_n 0, 1) := by decide +kernel
theorem dX8_from_61 : decode cX8_from 61 = .ok (.iload 4, 2) := by decide +kernel
theorem dX8_from_63 : decode cX8_from 63 = .ok (.iconst 1, 1) := by decide +kernel
theorem dX8_from_64 : decode cX8_from 64 = .ok (.invokevirtual 112, 3) := by decide +kernel
theorem dX8_from_67 : decode cX8_from 67 = .ok (.goto 4, 3) := by decide +kernel
theorem dX8_from_70 : decode cX8_from 70 = .ok (.iconst 0, 1) := by decide +kernel
theorem dX8_from_71 : decode cX8_from 71 = .ok (.iadd, 1) := by decide +kernel
theorem dX8_from_72 : decode cX8_from 72 = .ok (.istore_n 3, 1) := by decide +kernel
theorem dX8_from_73 : decode cX8_from 73 = .ok (.iinc 4 1, 3) := by decide +kernel
theorem dX8_from_76 : decode cX8_from 76 = .ok (.goto (-47), 3) := by decide +kernel
theorem dX8_from_79 : decode cX8_from 79 = .ok (.iload_n 3, 1) := by decide +kernel
theorem dX8_from_80 : decode cX8_from 80 = .ok (.ireturn, 1) := by decide +kernel
theorem dX8_areTwo_0 : decode cX8_areTwo 0 = .ok (.aload_n 0, 1) := by decide +kernel
theorem dX8_areTwo_1 : decode cX8_areTwo 1 = .ok (.iload_n 1, 1) := by decide +kernel
theorem dX8_areTwo_2 : decode cX8_areTwo 2 = .ok (.invokevirtual 104, 3) := by decide +kernel
theorem dX8_areTwo_5 : decode cX8_areTwo 5 = .ok (.ifCond .eq 20, 3) := by decide +kernel
theorem dX8_areTwo_8 : decode cX8_areTwo 8 = .ok (.aload_n 0, 1) := by decide +kernel
theorem dX8_areTwo_9 : decode cX8_areTwo 9 = .ok (.iload_n 2, 1) := by decide +kernel
theorem dX8_areTwo_10 : decode cX8_areTwo 10 = .ok (.invokevirtual 104, 3) := by decide +kernel
theorem dX8_areTwo_13 : decode cX8_areTwo 13 = .ok (.ifCond .eq 12, 3) := by decide +kernel
theorem dX8_areTwo_16 : decode cX8_areTwo 16 = .ok (.iload_n 1, 1) := by decide +kernel
theorem dX8_areTwo_17 : decode cX8_areTwo 17 = .ok (.iload_n 2, 1) := by decide +kernel
theorem dX8_areTwo_18 : decode cX8_areTwo 18 = .ok (.if_icmp .eq 7, 3) := by decide +kernel
theorem dX8_areTwo_21 : decode cX8_areTwo 21 = .ok (.iconst 1, 1) := by decide +kernel
theorem dX8_areTwo_22 : decode cX8_areTwo 22 = .ok (.goto 4, 3) := by decide +kernel
theorem dX8_areTwo_25 : decode cX8_areTwo 25 = .ok (.iconst 0, 1) := by decide +kernel
theorem dX8_areTwo_26 : decode cX8_areTwo 26 = .ok (.ireturn, 1) := by decide +kernel
theorem dX8_fits_0 : decode cX8_fits 0 = .ok (.aload_n 0, 1) := by decide +kernel
theorem dX8_fits_1 : decode cX8_fits 1 = .ok (.iload_n 1, 1) := by decide +kernel
theorem dX8_fits_2 : decode cX8_fits 2 = .ok (.invokevirtual 108, 3) := by decide +kernel
theorem dX8_fits_5 : decode cX8_fits 5 = .ok (.aload_n 0, 1) := by decide +kernel
theorem dX8_fits_6 : decode cX8_fits 6 = .ok (.iload_n 2, 1) := by decide +kernel
theorem dX8_fits_7 : decode cX8_fits 7 = .ok (.invokevirtual 108, 3) := by decide +kernel
theorem dX8_fits_10 : decode cX8_fits 10 = .ok (.iadd, 1) := by decide +kernel
theorem dX8_fits_11 : decode cX8_fits 11 = .ok (.iconst 3, 1) := by decide +kernel
theorem dX8_fits_12 : decode cX8_fits 12 = .ok (.if_icmp .gt 7, 3) := by decide +kernel
theorem dX8_fits_15 : decode cX8_fits 15 = .ok (.iconst 1, 1) := by decide +kernel
theorem dX8_fits_16 : decode cX8_fits 16 = .ok (.goto 4, 3) := by decide +kernel
theorem dX8_fits_19 : decode cX8_fits 19 = .ok (.iconst 0, 1) := by decide +kernel
theorem dX8_fits_20 : decode cX8_fits 20 = .ok (.ireturn, 1) := by decide +kernel
theorem dX8_mergeNow_0 : decode cX8_mergeNow 0 = .ok (.iconst 0, 1) := by decide +kernel
theorem dX8_mergeNow_1 : decode cX8_mergeNow 1 = .ok (.istore_n 3, 1) := by decide +kernel
theorem dX8_mergeNow_2 : decode cX8_mergeNow 2 = .ok (.iload_n 3, 1) := by decide +kernel
theorem dX8_mergeNow_3 : decode cX8_mergeNow 3 = .ok (.aload_n 0, 1) := by decide +kernel
theorem dX8_mergeNow_4 : decode cX8_mergeNow 4 = .ok (.getfield 98, 3) := by decide +kernel
theorem dX8_mergeNow_7 : decode cX8_mergeNow 7 = .ok (.if_icmp .ge 35, 3) := by decide +kernel
theorem dX8_mergeNow_10 : decode cX8_mergeNow 10 = .ok (.aload_n 0, 1) := by decide +kernel
theorem dX8_mergeNow_11 : decode cX8_mergeNow 11 = .ok (.getfield 20, 3) := by decide +kernel
theorem dX8_mergeNow_14 : decode cX8_mergeNow 14 = .ok (.iload_n 3, 1) := by decide +kernel
theorem dX8_mergeNow_15 : decode cX8_mergeNow 15 = .ok (.aload_n 0, 1) := by decide +kernel
theorem dX8_mergeNow_16 : decode cX8_mergeNow 16 = .ok (.getfield 20, 3) := by decide +kernel
theorem dX8_mergeNow_19 : decode cX8_mergeNow 19 = .ok (.iload_n 3, 1) := by decide +kernel
theorem dX8_mergeNow_20 : decode cX8_mergeNow 20 = .ok (.iaload, 1) := by decide +kernel
theorem dX8_mergeNow_21 : decode cX8_mergeNow 21 = .ok (.iload_n 2, 1) := by decide +kernel
theorem dX8_mergeNow_22 : decode cX8_mergeNow 22 = .ok (.if_icmp .ne 7, 3) := by decide +kernel
theorem dX8_mergeNow_25 : decode cX8_mergeNow 25 = .ok (.iload_n 1, 1) := by decide +kernel
theorem dX8_mergeNow_26 : decode cX8_mergeNow 26 = .ok (.goto 9, 3) := by decide +kernel
theorem dX8_mergeNow_29 : decode cX8_mergeNow 29 = .ok (.aload_n 0, 1) := by decide +kernel
theorem dX8_mergeNow_30 : decode cX8_mergeNow 30 = .ok (.getfield 20, 3) := by decide +kernel
theorem dX8_mergeNow_33 : decode cX8_mergeNow 33 = .ok (.iload_n 3, 1) := by decide +kernel
theorem dX8_mergeNow_34 : decode cX8_mergeNow 34 = .ok (.iaload, 1) := by decide +kernel
theorem dX8_mergeNow_35 : decode cX8_mergeNow 35 = .ok (.iastore, 1) := by decide +kernel
theorem dX8_mergeNow_36 : decode cX8_mergeNow 36 = .ok (.iinc 3 1, 3) := by decide +kernel
theorem dX8_mergeNow_39 : decode cX8_mergeNow 39 = .ok (.goto (-37), 3) := by decide +kernel
theorem dX8_mergeNow_42 : decode cX8_mergeNow 42 = .ok (.return_, 1) := by decide +kernel
theorem dX8_merge_0 : decode cX8_merge 0 = .ok (.aload_n 0, 1) := by decide +kernel
theorem dX8_merge_1 : decode cX8_merge 1 = .ok (.iload_n 1, 1) := by decide +kernel
theorem dX8_merge_2 : decode cX8_merge 2 = .ok (.iload_n 2, 1) := by decide +kernel
theorem dX8_merge_3 : decode cX8_merge 3 = .ok (.invokevirtual 200, 3) := by decide +kernel
theorem dX8_merge_6 : decode cX8_merge 6 = .ok (.ifCond .ne 6, 3) := by decide +kernel
theorem dX8_merge_9 : decode cX8_merge 9 = .ok (.bipush (-101), 2) := by decide +kernel
theorem dX8_merge_11 : decode cX8_merge 11 = .ok (.ireturn, 1) := by decide +kernel
theorem dX8_merge_12 : decode cX8_merge 12 = .ok (.aload_n 0, 1) := by decide +kernel
theorem dX8_merge_13 : decode cX8_merge 13 = .ok (.iload_n 1, 1) := by decide +kernel
theorem dX8_merge_14 : decode cX8_merge 14 = .ok (.iload_n 2, 1) := by decide +kernel
theorem dX8_merge_15 : decode cX8_merge 15 = .ok (.invokevirtual 203, 3) := by decide +kernel
theorem dX8_merge_18 : decode cX8_merge 18 = .ok (.ifCond .ne 6, 3) := by decide +kernel
theorem dX8_merge_21 : decode cX8_merge 21 = .ok (.bipush (-103), 2) := by decide +kernel
theorem dX8_merge_23 : decode cX8_merge 23 = .ok (.ireturn, 1) := by decide +kernel
theorem dX8_merge_24 : decode cX8_merge 24 = .ok (.aload_n 0, 1) := by decide +kernel
theorem dX8_merge_25 : decode cX8_merge 25 = .ok (.iload_n 1, 1) := by decide +kernel
theorem dX8_merge_26 : decode cX8_merge 26 = .ok (.iload_n 2, 1) := by decide +kernel
theorem dX8_merge_27 : decode cX8_merge 27 = .ok (.invokevirtual 206, 3) := by decide +kernel
theorem dX8_merge_30 : decode cX8_merge 30 = .ok (.aload_n 0, 1) := by decide +kernel
theorem dX8_merge_31 : decode cX8_merge 31 = .ok (.iload_n 1, 1) := by decide +kernel
theorem dX8_merge_32 : decode cX8_merge 32 = .ok (.invokevirtual 108, 3) := by decide +kernel
theorem dX8_merge_35 : decode cX8_merge 35 = .ok (.ireturn, 1) := by decide +kernel
theorem dX8_layBefore_0 : decode cX8_layBefore 0 = .ok (.aload_n 0, 1) := by decide +kernel
theorem dX8_layBefore_1 : decode cX8_layBefore 1 = .ok (.invokevirtual 166, 3) := by decide +kernel
theorem dX8_layBefore_4 : decode cX8_layBefore 4 = .ok (.aload_n 0, 1) := by decide +kernel
theorem dX8_layBefore_5 : decode cX8_layBefore 5 = .ok (.invokevirtual 169, 3) := by decide +kernel
theorem dX8_layBefore_8 : decode cX8_layBefore 8 = .ok (.iconst (-1), 1) := by decide +kernel
theorem dX8_layBefore_9 : decode cX8_layBefore 9 = .ok (.if_icmp .eq 7, 3) := by decide +kernel
theorem dX8_layBefore_12 : decode cX8_layBefore 12 = .ok (.iconst 1, 1) := by decide +kernel
theorem dX8_layBefore_13 : decode cX8_layBefore 13 = .ok (.goto 4, 3) := by decide +kernel
theorem dX8_layBefore_16 : decode cX8_layBefore 16 = .ok (.iconst 0, 1) := by decide +kernel
theorem dX8_layBefore_17 : decode cX8_layBefore 17 = .ok (.istore_n 1, 1) := by decide +kernel
theorem dX8_layBefore_18 : decode cX8_layBefore 18 = .ok (.iconst 0, 1) := by decide +kernel
theorem dX8_layBefore_19 : decode cX8_layBefore 19 = .ok (.istore_n 2, 1) := by decide +kernel
theorem dX8_layBefore_20 : decode cX8_layBefore 20 = .ok (.iload_n 2, 1) := by decide +kernel
theorem dX8_layBefore_21 : decode cX8_layBefore 21 = .ok (.aload_n 0, 1) := by decide +kernel
theorem dX8_layBefore_22 : decode cX8_layBefore 22 = .ok (.getfield 101, 3) := by decide +kernel
theorem dX8_layBefore_25 : decode cX8_layBefore 25 = .ok (.if_icmp .ge 20, 3) := by decide +kernel
theorem dX8_layBefore_28 : decode cX8_layBefore 28 = .ok (.aload_n 0, 1) := by decide +kernel
theorem dX8_layBefore_29 : decode cX8_layBefore 29 = .ok (.getfield 76, 3) := by decide +kernel
theorem dX8_layBefore_32 : decode cX8_layBefore 32 = .ok (.iload_n 2, 1) := by decide +kernel
theorem dX8_layBefore_33 : decode cX8_layBefore 33 = .ok (.aload_n 0, 1) := by decide +kernel
theorem dX8_layBefore_34 : decode cX8_layBefore 34 = .ok (.iload_n 2, 1) := by decide +kernel
theorem dX8_layBefore_35 : decode cX8_layBefore 35 = .ok (.invokevirtual 141, 3) := by decide +kernel
theorem dX8_layBefore_38 : decode cX8_layBefore 38 = .ok (.iastore, 1) := by decide +kernel
theorem dX8_layBefore_39 : decode cX8_layBefore 39 = .ok (.iinc 2 1, 3) := by decide +kernel
theorem dX8_layBefore_42 : decode cX8_layBefore 42 = .ok (.goto (-22), 3) := by decide +kernel
theorem dX8_layBefore_45 : decode cX8_layBefore 45 = .ok (.aload_n 0, 1) := by decide +kernel
theorem dX8_layBefore_46 : decode cX8_layBefore 46 = .ok (.invokevirtual 172, 3) := by decide +kernel
theorem dX8_layBefore_49 : decode cX8_layBefore 49 = .ok (.iload_n 1, 1) := by decide +kernel
theorem dX8_layBefore_50 : decode cX8_layBefore 50 = .ok (.ireturn, 1) := by decide +kernel
theorem dX8_layBehind_0 : decode cX8_layBehind 0 = .ok (.aload_n 0, 1) := by decide +kernel
theorem dX8_layBehind_1 : decode cX8_layBehind 1 = .ok (.invokevirtual 166, 3) := by decide +kernel
theorem dX8_layBehind_4 : decode cX8_layBehind 4 = .ok (.aload_n 0, 1) := by decide +kernel
theorem dX8_layBehind_5 : decode cX8_layBehind 5 = .ok (.iload_n 1, 1) := by decide +kernel
theorem dX8_layBehind_6 : decode cX8_layBehind 6 = .ok (.iload_n 2, 1) := by decide +kernel
theorem dX8_layBehind_7 : decode cX8_layBehind 7 = .ok (.invokevirtual 206, 3) := by decide +kernel
theorem dX8_layBehind_10 : decode cX8_layBehind 10 = .ok (.iload_n 3, 1) := by decide +kernel
theorem dX8_layBehind_11 : decode cX8_layBehind 11 = .ok (.iconst (-1), 1) := by decide +kernel
theorem dX8_layBehind_12 : decode cX8_layBehind 12 = .ok (.if_icmp .eq 10, 3) := by decide +kernel
theorem dX8_layBehind_15 : decode cX8_layBehind 15 = .ok (.aload_n 0, 1) := by decide +kernel
theorem dX8_layBehind_16 : decode cX8_layBehind 16 = .ok (.iload_n 3, 1) := by decide +kernel
theorem dX8_layBehind_17 : decode cX8_layBehind 17 = .ok (.iload 4, 2) := by decide +kernel
theorem dX8_layBehind_19 : decode cX8_layBehind 19 = .ok (.invokevirtual 206, 3) := by decide +kernel
theorem dX8_layBehind_22 : decode cX8_layBehind 22 = .ok (.iconst 0, 1) := by decide +kernel
theorem dX8_layBehind_23 : decode cX8_layBehind 23 = .ok (.istore 7, 2) := by decide +kernel
theorem dX8_layBehind_25 : decode cX8_layBehind 25 = .ok (.iload 7, 2) := by decide +kernel
theorem dX8_layBehind_27 : decode cX8_layBehind 27 = .ok (.aload_n 0, 1) := by decide +kernel
theorem dX8_layBehind_28 : decode cX8_layBehind 28 = .ok (.getfield 98, 3) := by decide +kernel
theorem dX8_layBehind_31 : decode cX8_layBehind 31 = .ok (.if_icmp .ge 39, 3) := by decide +kernel
theorem dX8_layBehind_34 : decode cX8_layBehind 34 = .ok (.aload_n 0, 1) := by decide +kernel
theorem dX8_layBehind_35 : decode cX8_layBehind 35 = .ok (.getfield 20, 3) := by decide +kernel
theorem dX8_layBehind_38 : decode cX8_layBehind 38 = .ok (.iload 7, 2) := by decide +kernel
theorem dX8_layBehind_40 : decode cX8_layBehind 40 = .ok (.iload 5, 2) := by decide +kernel
theorem dX8_layBehind_42 : decode cX8_layBehind 42 = .ok (.iload 7, 2) := by decide +kernel
theorem dX8_layBehind_44 : decode cX8_layBehind 44 = .ok (.ishr, 1) := by decide +kernel
theorem dX8_layBehind_45 : decode cX8_layBehind 45 = .ok (.iconst 1, 1) := by decide +kernel
theorem dX8_layBehind_46 : decode cX8_layBehind 46 = .ok (.iand, 1) := by decide +kernel
theorem dX8_layBehind_47 : decode cX8_layBehind 47 = .ok (.iconst 1, 1) := by decide +kernel
theorem dX8_layBehind_48 : decode cX8_layBehind 48 = .ok (.if_icmp .ne 8, 3) := by decide +kernel
theorem dX8_layBehind_51 : decode cX8_layBehind 51 = .ok (.iload 6, 2) := by decide +kernel
theorem dX8_layBehind_53 : decode cX8_layBehind 53 = .ok (.goto 10, 3) := by decide +kernel
theorem dX8_layBehind_56 : decode cX8_layBehind 56 = .ok (.aload_n 0, 1) := by decide +kernel
theorem dX8_layBehind_57 : decode cX8_layBehind 57 = .ok (.getfield 20, 3) := by decide +kernel
theorem dX8_layBehind_60 : decode cX8_layBehind 60 = .ok (.iload 7, 2) := by decide +kernel
theorem dX8_layBehind_62 : decode cX8_layBehind 62 = .ok (.iaload, 1) := by decide +kernel
theorem dX8_layBehind_63 : decode cX8_layBehind 63 = .ok (.iastore, 1) := by decide +kernel
theorem dX8_layBehind_64 : decode cX8_layBehind 64 = .ok (.iinc 7 1, 3) := by decide +kernel
theorem dX8_layBehind_67 : decode cX8_layBehind 67 = .ok (.goto (-42), 3) := by decide +kernel
theorem dX8_layBehind_70 : decode cX8_layBehind 70 = .ok (.aload_n 0, 1) := by decide +kernel
theorem dX8_layBehind_71 : decode cX8_layBehind 71 = .ok (.aload_n 0, 1) := by decide +kernel
theorem dX8_layBehind_72 : decode cX8_layBehind 72 = .ok (.invokevirtual 169, 3) := by decide +kernel
theorem dX8_layBehind_75 : decode cX8_layBehind 75 = .ok (.putfield 210, 3) := by decide +kernel
theorem dX8_layBehind_78 : decode cX8_layBehind 78 = .ok (.iconst 0, 1) := by decide +kernel
theorem dX8_layBehind_79 : decode cX8_layBehind 79 = .ok (.istore 7, 2) := by decide +kernel
theorem dX8_layBehind_81 : decode cX8_layBehind 81 = .ok (.iload 7, 2) := by decide +kernel
theorem dX8_layBehind_83 : decode cX8_layBehind 83 = .ok (.aload_n 0, 1) := by decide +kernel
theorem dX8_layBehind_84 : decode cX8_layBehind 84 = .ok (.getfield 101, 3) := by decide +kernel
theorem dX8_layBehind_87 : decode cX8_layBehind 87 = .ok (.if_icmp .ge 22, 3) := by decide +kernel
theorem dX8_layBehind_90 : decode cX8_layBehind 90 = .ok (.aload_n 0, 1) := by decide +kernel
theorem dX8_layBehind_91 : decode cX8_layBehind 91 = .ok (.getfield 79, 3) := by decide +kernel
theorem dX8_layBehind_94 : decode cX8_layBehind 94 = .ok (.iload 7, 2) := by decide +kernel
theorem dX8_layBehind_96 : decode cX8_layBehind 96 = .ok (.aload_n 0, 1) := by decide +kernel
theorem dX8_layBehind_97 : decode cX8_layBehind 97 = .ok (.iload 7, 2) := by decide +kernel
theorem dX8_layBehind_99 : decode cX8_layBehind 99 = .ok (.invokevirtual 141, 3) := by decide +kernel
theorem dX8_layBehind_102 : decode cX8_layBehind 102 = .ok (.iastore, 1) := by decide +kernel
theorem dX8_layBehind_103 : decode cX8_layBehind 103 = .ok (.iinc 7 1, 3) := by decide +kernel
theorem dX8_layBehind_106 : decode cX8_layBehind 106 = .ok (.goto (-25), 3) := by decide +kernel
theorem dX8_layBehind_109 : decode cX8_layBehind 109 = .ok (.aload_n 0, 1) := by decide +kernel
theorem dX8_layBehind_110 : decode cX8_layBehind 110 = .ok (.invokevirtual 172, 3) := by decide +kernel
theorem dX8_layBehind_113 : decode cX8_layBehind 113 = .ok (.aload_n 0, 1) := by decide +kernel
theorem dX8_layBehind_114 : decode cX8_layBehind 114 = .ok (.getfield 210, 3) := by decide +kernel
theorem dX8_layBehind_117 : decode cX8_layBehind 117 = .ok (.iconst (-1), 1) := by decide +kernel
theorem dX8_layBehind_118 : decode cX8_layBehind 118 = .ok (.if_icmp .eq 7, 3) := by decide +kernel
theorem dX8_layBehind_121 : decode cX8_layBehind 121 = .ok (.iconst 1, 1) := by decide +kernel
theorem dX8_layBehind_122 : decode cX8_layBehind 122 = .ok (.goto 4, 3) := by decide +kernel
theorem dX8_layBehind_125 : decode cX8_layBehind 125 = .ok (.iconst 0, 1) := by decide +kernel
theorem dX8_layBehind_126 : decode cX8_layBehind 126 = .ok (.ireturn, 1) := by decide +kernel
theorem dX8_harmNow_0 : decode cX8_harmNow 0 = .ok (.iconst 0, 1) := by decide +kernel
theorem dX8_harmNow_1 : decode cX8_harmNow 1 = .ok (.istore_n 2, 1) := by decide +kernel
theorem dX8_harmNow_2 : decode cX8_harmNow 2 = .ok (.iconst 0, 1) := by decide +kernel
theorem dX8_harmNow_3 : decode cX8_harmNow 3 = .ok (.istore_n 3, 1) := by decide +kernel
theorem dX8_harmNow_4 : decode cX8_harmNow 4 = .ok (.iconst 0, 1) := by decide +kernel
theorem dX8_harmNow_5 : decode cX8_harmNow 5 = .ok (.istore 4, 2) := by decide +kernel
theorem dX8_harmNow_7 : decode cX8_harmNow 7 = .ok (.iload 4, 2) := by decide +kernel
theorem dX8_harmNow_9 : decode cX8_harmNow 9 = .ok (.aload_n 0, 1) := by decide +kernel
theorem dX8_harmNow_10 : decode cX8_harmNow 10 = .ok (.getfield 101, 3) := by decide +kernel
theorem dX8_harmNow_13 : decode cX8_harmNow 13 = .ok (.if_icmp .ge 64, 3) := by decide +kernel
theorem dX8_harmNow_16 : decode cX8_harmNow 16 = .ok (.aload_n 0, 1) := by decide +kernel
theorem dX8_harmNow_17 : decode cX8_harmNow 17 = .ok (.getfield 76, 3) := by decide +kernel
theorem dX8_harmNow_20 : decode cX8_harmNow 20 = .ok (.iload 4, 2) := by decide +kernel
theorem dX8_harmNow_22 : decode cX8_harmNow 22 = .ok (.iaload, 1) := by decide +kernel
theorem dX8_harmNow_23 : decode cX8_harmNow 23 = .ok (.aload_n 0, 1) := by decide +kernel
theorem dX8_harmNow_24 : decode cX8_harmNow 24 = .ok (.getfield 79, 3) := by decide +kernel
theorem dX8_harmNow_27 : decode cX8_harmNow 27 = .ok (.iload 4, 2) := by decide +kernel
theorem dX8_harmNow_29 : decode cX8_harmNow 29 = .ok (.iaload, 1) := by decide +kernel
theorem dX8_harmNow_30 : decode cX8_harmNow 30 = .ok (.isub, 1) := by decide +kernel
theorem dX8_harmNow_31 : decode cX8_harmNow 31 = .ok (.istore 5, 2) := by decide +kernel
theorem dX8_harmNow_33 : decode cX8_harmNow 33 = .ok (.iload_n 2, 1) := by decide +kernel
theorem dX8_harmNow_34 : decode cX8_harmNow 34 = .ok (.iload 5, 2) := by decide +kernel
theorem dX8_harmNow_36 : decode cX8_harmNow 36 = .ok (.ifCond .le 16, 3) := by decide +kernel
theorem dX8_harmNow_39 : decode cX8_harmNow 39 = .ok (.iload 5, 2) := by decide +kernel
theorem dX8_harmNow_41 : decode cX8_harmNow 41 = .ok (.aload_n 0, 1) := by decide +kernel
theorem dX8_harmNow_42 : decode cX8_harmNow 42 = .ok (.iload 4, 2) := by decide +kernel
theorem dX8_harmNow_44 : decode cX8_harmNow 44 = .ok (.iconst 1, 1) := by decide +kernel
theorem dX8_harmNow_45 : decode cX8_harmNow 45 = .ok (.invokevirtual 112, 3) := by decide +kernel
theorem dX8_harmNow_48 : decode cX8_harmNow 48 = .ok (.imul, 1) := by decide +kernel
theorem dX8_harmNow_49 : decode cX8_harmNow 49 = .ok (.goto 4, 3) := by decide +kernel
theorem dX8_harmNow_52 : decode cX8_harmNow 52 = .ok (.iconst 0, 1) := by decide +kernel
theorem dX8_harmNow_53 : decode cX8_harmNow 53 = .ok (.iadd, 1) := by decide +kernel
theorem dX8_harmNow_54 : decode cX8_harmNow 54 = .ok (.istore_n 2, 1) := by decide +kernel
theorem dX8_harmNow_55 : decode cX8_harmNow 55 = .ok (.iload_n 3, 1) := by decide +kernel
theorem dX8_harmNow_56 : decode cX8_harmNow 56 = .ok (.iload 5, 2) := by decide +kernel
theorem dX8_harmNow_58 : decode cX8_harmNow 58 = .ok (.ifCond .le 10, 3) := by decide +kernel
theorem dX8_harmNow_61 : decode cX8_harmNow 61 = .ok (.iconst 1, 1) := by decide +kernel
theorem dX8_harmNow_62 : decode cX8_harmNow 62 = .ok (.iload 4, 2) := by decide +kernel
theorem dX8_harmNow_64 : decode cX8_harmNow 64 = .ok (.ishl, 1) := by decide +kernel
theorem dX8_harmNow_65 : decode cX8_harmNow 65 = .ok (.goto 4, 3) := by decide +kernel
theorem dX8_harmNow_68 : decode cX8_harmNow 68 = .ok (.iconst 0, 1) := by decide +kernel
theorem dX8_harmNow_69 : decode cX8_harmNow 69 = .ok (.ior, 1) := by decide +kernel
theorem dX8_harmNow_70 : decode cX8_harmNow 70 = .ok (.istore_n 3, 1) := by decide +kernel
theorem dX8_harmNow_71 : decode cX8_harmNow 71 = .ok (.iinc 4 1, 3) := by decide +kernel
theorem dX8_harmNow_74 : decode cX8_harmNow 74 = .ok (.goto (-67), 3) := by decide +kernel
theorem dX8_harmNow_77 : decode cX8_harmNow 77 = .ok (.iload_n 1, 1) := by decide +kernel
theorem dX8_harmNow_78 : decode cX8_harmNow 78 = .ok (.ifCond .eq 7, 3) := by decide +kernel
theorem dX8_harmNow_81 : decode cX8_harmNow 81 = .ok (.iload_n 3, 1) := by decide +kernel
theorem dX8_harmNow_82 : decode cX8_harmNow 82 = .ok (.goto 4, 3) := by decide +kernel
theorem dX8_harmNow_85 : decode cX8_harmNow 85 = .ok (.iload_n 2, 1) := by decide +kernel
theorem dX8_harmNow_86 : decode cX8_harmNow 86 = .ok (.ireturn, 1) := by decide +kernel
theorem dX8_dearer_0 : decode cX8_dearer 0 = .ok (.aload_n 0, 1) := by decide +kernel
theorem dX8_dearer_1 : decode cX8_dearer 1 = .ok (.iload_n 1, 1) := by decide +kernel
theorem dX8_dearer_2 : decode cX8_dearer 2 = .ok (.iload_n 2, 1) := by decide +kernel
theorem dX8_dearer_3 : decode cX8_dearer 3 = .ok (.invokevirtual 200, 3) := by decide +kernel
theorem dX8_dearer_6 : decode cX8_dearer 6 = .ok (.ifCond .eq 11, 3) := by decide +kernel
theorem dX8_dearer_9 : decode cX8_dearer 9 = .ok (.aload_n 0, 1) := by decide +kernel
theorem dX8_dearer_10 : decode cX8_dearer 10 = .ok (.iload_n 3, 1) := by decide +kernel
theorem dX8_dearer_11 : decode cX8_dearer 11 = .ok (.invokevirtual 138, 3) := by decide +kernel
theorem dX8_dearer_14 : decode cX8_dearer 14 = .ok (.ifCond .ne 7, 3) := by decide +kernel
theorem dX8_dearer_17 : decode cX8_dearer 17 = .ok (.sipush (-1001), 3) := by decide +kernel
theorem dX8_dearer_20 : decode cX8_dearer 20 = .ok (.ireturn, 1) := by decide +kernel
theorem dX8_dearer_21 : decode cX8_dearer 21 = .ok (.aload_n 0, 1) := by decide +kernel
theorem dX8_dearer_22 : decode cX8_dearer 22 = .ok (.iload_n 1, 1) := by decide +kernel
theorem dX8_dearer_23 : decode cX8_dearer 23 = .ok (.iload_n 2, 1) := by decide +kernel
theorem dX8_dearer_24 : decode cX8_dearer 24 = .ok (.invokevirtual 203, 3) := by decide +kernel
theorem dX8_dearer_27 : decode cX8_dearer 27 = .ok (.ifCond .eq 27, 3) := by decide +kernel
theorem dX8_dearer_30 : decode cX8_dearer 30 = .ok (.aload_n 0, 1) := by decide +kernel
theorem dX8_dearer_31 : decode cX8_dearer 31 = .ok (.invokevirtual 213, 3) := by decide +kernel
theorem dX8_dearer_34 : decode cX8_dearer 34 = .ok (.ifCond .eq 20, 3) := by decide +kernel
theorem dX8_dearer_37 : decode cX8_dearer 37 = .ok (.aload_n 0, 1) := by decide +kernel
theorem dX8_dearer_38 : decode cX8_dearer 38 = .ok (.iload_n 1, 1) := by decide +kernel
theorem dX8_dearer_39 : decode cX8_dearer 39 = .ok (.iload_n 2, 1) := by decide +kernel
theorem dX8_dearer_40 : decode cX8_dearer 40 = .ok (.iconst (-1), 1) := by decide +kernel
theorem dX8_dearer_41 : decode cX8_dearer 41 = .ok (.iconst (-1), 1) := by decide +kernel
theorem dX8_dearer_42 : decode cX8_dearer 42 = .ok (.iconst 0, 1) := by decide +kernel
theorem dX8_dearer_43 : decode cX8_dearer 43 = .ok (.iconst (-1), 1) := by decide +kernel
theorem dX8_dearer_44 : decode cX8_dearer 44 = .ok (.invokevirtual 217, 3) := by decide +kernel
theorem dX8_dearer_47 : decode cX8_dearer 47 = .ok (.ifCond .eq 7, 3) := by decide +kernel
theorem dX8_dearer_50 : decode cX8_dearer 50 = .ok (.iconst 1, 1) := by decide +kernel
theorem dX8_dearer_51 : decode cX8_dearer 51 = .ok (.goto 4, 3) := by decide +kernel
theorem dX8_dearer_54 : decode cX8_dearer 54 = .ok (.iconst 0, 1) := by decide +kernel
theorem dX8_dearer_55 : decode cX8_dearer 55 = .ok (.istore 4, 2) := by decide +kernel
theorem dX8_dearer_57 : decode cX8_dearer 57 = .ok (.iload 4, 2) := by decide +kernel
theorem dX8_dearer_59 : decode cX8_dearer 59 = .ok (.ifCond .eq 19, 3) := by decide +kernel
theorem dX8_dearer_62 : decode cX8_dearer 62 = .ok (.aload_n 0, 1) := by decide +kernel
theorem dX8_dearer_63 : decode cX8_dearer 63 = .ok (.getfield 76, 3) := by decide +kernel
theorem dX8_dearer_66 : decode cX8_dearer 66 = .ok (.iload_n 3, 1) := by decide +kernel
theorem dX8_dearer_67 : decode cX8_dearer 67 = .ok (.iaload, 1) := by decide +kernel
theorem dX8_dearer_68 : decode cX8_dearer 68 = .ok (.aload_n 0, 1) := by decide +kernel
theorem dX8_dearer_69 : decode cX8_dearer 69 = .ok (.getfield 79, 3) := by decide +kernel
theorem dX8_dearer_72 : decode cX8_dearer 72 = .ok (.iload_n 3, 1) := by decide +kernel
theorem dX8_dearer_73 : decode cX8_dearer 73 = .ok (.iaload, 1) := by decide +kernel
theorem dX8_dearer_74 : decode cX8_dearer 74 = .ok (.isub, 1) := by decide +kernel
theorem dX8_dearer_75 : decode cX8_dearer 75 = .ok (.goto 6, 3) := by decide +kernel
theorem dX8_dearer_78 : decode cX8_dearer 78 = .ok (.sipush (-1002), 3) := by decide +kernel
theorem dX8_dearer_81 : decode cX8_dearer 81 = .ok (.ireturn, 1) := by decide +kernel
theorem dX8_harm_0 : decode cX8_harm 0 = .ok (.aload_n 0, 1) := by decide +kernel
theorem dX8_harm_1 : decode cX8_harm 1 = .ok (.iload_n 1, 1) := by decide +kernel
theorem dX8_harm_2 : decode cX8_harm 2 = .ok (.iload_n 2, 1) := by decide +kernel
theorem dX8_harm_3 : decode cX8_harm 3 = .ok (.invokevirtual 200, 3) := by decide +kernel
theorem dX8_harm_6 : decode cX8_harm 6 = .ok (.ifCond .ne 6, 3) := by decide +kernel
theorem dX8_harm_9 : decode cX8_harm 9 = .ok (.bipush (-101), 2) := by decide +kernel
theorem dX8_harm_11 : decode cX8_harm 11 = .ok (.ireturn, 1) := by decide +kernel
theorem dX8_harm_12 : decode cX8_harm 12 = .ok (.iload_n 3, 1) := by decide +kernel
theorem dX8_harm_13 : decode cX8_harm 13 = .ok (.iconst 0, 1) := by decide +kernel
theorem dX8_harm_14 : decode cX8_harm 14 = .ok (.iconst 2, 1) := by decide +kernel
theorem dX8_harm_15 : decode cX8_harm 15 = .ok (.invokestatic 94, 3) := by decide +kernel
theorem dX8_harm_18 : decode cX8_harm 18 = .ok (.ifCond .ne 6, 3) := by decide +kernel
theorem dX8_harm_21 : decode cX8_harm 21 = .ok (.bipush (-102), 2) := by decide +kernel
theorem dX8_harm_23 : decode cX8_harm 23 = .ok (.ireturn, 1) := by decide +kernel
theorem dX8_harm_24 : decode cX8_harm 24 = .ok (.aload_n 0, 1) := by decide +kernel
theorem dX8_harm_25 : decode cX8_harm 25 = .ok (.iload_n 1, 1) := by decide +kernel
theorem dX8_harm_26 : decode cX8_harm 26 = .ok (.iload_n 2, 1) := by decide +kernel
theorem dX8_harm_27 : decode cX8_harm 27 = .ok (.invokevirtual 203, 3) := by decide +kernel
theorem dX8_harm_30 : decode cX8_harm 30 = .ok (.ifCond .ne 6, 3) := by decide +kernel
theorem dX8_harm_33 : decode cX8_harm 33 = .ok (.bipush (-103), 2) := by decide +kernel
theorem dX8_harm_35 : decode cX8_harm 35 = .ok (.ireturn, 1) := by decide +kernel
theorem dX8_harm_36 : decode cX8_harm 36 = .ok (.aload_n 0, 1) := by decide +kernel
theorem dX8_harm_37 : decode cX8_harm 37 = .ok (.invokevirtual 213, 3) := by decide +kernel
theorem dX8_harm_40 : decode cX8_harm 40 = .ok (.ifCond .eq 16, 3) := by decide +kernel
theorem dX8_harm_43 : decode cX8_harm 43 = .ok (.aload_n 0, 1) := by decide +kernel
theorem dX8_harm_44 : decode cX8_harm 44 = .ok (.iload_n 1, 1) := by decide +kernel
theorem dX8_harm_45 : decode cX8_harm 45 = .ok (.iload_n 2, 1) := by decide +kernel
theorem dX8_harm_46 : decode cX8_harm 46 = .ok (.iconst (-1), 1) := by decide +kernel
theorem dX8_harm_47 : decode cX8_harm 47 = .ok (.iconst (-1), 1) := by decide +kernel
theorem dX8_harm_48 : decode cX8_harm 48 = .ok (.iconst 0, 1) := by decide +kernel
theorem dX8_harm_49 : decode cX8_harm 49 = .ok (.iconst (-1), 1) := by decide +kernel
theorem dX8_harm_50 : decode cX8_harm 50 = .ok (.invokevirtual 217, 3) := by decide +kernel
theorem dX8_harm_53 : decode cX8_harm 53 = .ok (.ifCond .ne 5, 3) := by decide +kernel
theorem dX8_harm_56 : decode cX8_harm 56 = .ok (.iconst (-1), 1) := by decide +kernel
theorem dX8_harm_57 : decode cX8_harm 57 = .ok (.ireturn, 1) := by decide +kernel
theorem dX8_harm_58 : decode cX8_harm 58 = .ok (.iload_n 3, 1) := by decide +kernel
theorem dX8_harm_59 : decode cX8_harm 59 = .ok (.iconst 2, 1) := by decide +kernel
theorem dX8_harm_60 : decode cX8_harm 60 = .ok (.if_icmp .ne 10, 3) := by decide +kernel
theorem dX8_harm_63 : decode cX8_harm 63 = .ok (.aload_n 0, 1) := by decide +kernel
theorem dX8_harm_64 : decode cX8_harm 64 = .ok (.getfield 210, 3) := by decide +kernel
theorem dX8_harm_67 : decode cX8_harm 67 = .ok (.goto 17, 3) := by decide +kernel
theorem dX8_harm_70 : decode cX8_harm 70 = .ok (.aload_n 0, 1) := by decide +kernel
theorem dX8_harm_71 : decode cX8_harm 71 = .ok (.iload_n 3, 1) := by decide +kernel
theorem dX8_harm_72 : decode cX8_harm 72 = .ok (.iconst 1, 1) := by decide +kernel
theorem dX8_harm_73 : decode cX8_harm 73 = .ok (.if_icmp .ne 7, 3) := by decide +kernel
theorem dX8_harm_76 : decode cX8_harm 76 = .ok (.iconst 1, 1) := by decide +kernel
theorem dX8_harm_77 : decode cX8_harm 77 = .ok (.goto 4, 3) := by decide +kernel
theorem dX8_harm_80 : decode cX8_harm 80 = .ok (.iconst 0, 1) := by decide +kernel
theorem dX8_harm_81 : decode cX8_harm 81 = .ok (.invokevirtual 221, 3) := by decide +kernel
theorem dX8_harm_84 : decode cX8_harm 84 = .ok (.ireturn, 1) := by decide +kernel
theorem dX8_isBelow_0 : decode cX8_isBelow 0 = .ok (.iconst 1, 1) := by decide +kernel
theorem dX8_isBelow_1 : decode cX8_isBelow 1 = .ok (.istore_n 2, 1) := by decide +kernel
theorem dX8_isBelow_2 : decode cX8_isBelow 2 = .ok (.iconst 0, 1) := by decide +kernel
theorem dX8_isBelow_3 : decode cX8_isBelow 3 = .ok (.istore_n 3, 1) := by decide +kernel
theorem dX8_isBelow_4 : decode cX8_isBelow 4 = .ok (.iload_n 3, 1) := by decide +kernel
theorem dX8_isBelow_5 : decode cX8_isBelow 5 = .ok (.aload_n 0, 1) := by decide +kernel
theorem dX8_isBelow_6 : decode cX8_isBelow 6 = .ok (.getfield 101, 3) := by decide +kernel
theorem dX8_isBelow_9 : decode cX8_isBelow 9 = .ok (.if_icmp .ge 36, 3) := by decide +kernel
theorem dX8_isBelow_12 : decode cX8_isBelow 12 = .ok (.iload_n 2, 1) := by decide +kernel
theorem dX8_isBelow_13 : decode cX8_isBelow 13 = .ok (.ifCond .eq 24, 3) := by decide +kernel
theorem dX8_isBelow_16 : decode cX8_isBelow 16 = .ok (.aload_n 0, 1) := by decide +kernel
theorem dX8_isBelow_17 : decode cX8_isBelow 17 = .ok (.getfield 76, 3) := by decide +kernel
theorem dX8_isBelow_20 : decode cX8_isBelow 20 = .ok (.iload_n 3, 1) := by decide +kernel
theorem dX8_isBelow_21 : decode cX8_isBelow 21 = .ok (.iaload, 1) := by decide +kernel
theorem dX8_isBelow_22 : decode cX8_isBelow 22 = .ok (.aload_n 0, 1) := by decide +kernel
theorem dX8_isBelow_23 : decode cX8_isBelow 23 = .ok (.getfield 79, 3) := by decide +kernel
theorem dX8_isBelow_26 : decode cX8_isBelow 26 = .ok (.iload_n 3, 1) := by decide +kernel
theorem dX8_isBelow_27 : decode cX8_isBelow 27 = .ok (.iaload, 1) := by decide +kernel
theorem dX8_isBelow_28 : decode cX8_isBelow 28 = .ok (.isub, 1) := by decide +kernel
theorem dX8_isBelow_29 : decode cX8_isBelow 29 = .ok (.iload_n 1, 1) := by decide +kernel
theorem dX8_isBelow_30 : decode cX8_isBelow 30 = .ok (.if_icmp .gt 7, 3) := by decide +kernel
theorem dX8_isBelow_33 : decode cX8_isBelow 33 = .ok (.iconst 1, 1) := by decide +kernel
theorem dX8_isBelow_34 : decode cX8_isBelow 34 = .ok (.goto 4, 3) := by decide +kernel
theorem dX8_isBelow_37 : decode cX8_isBelow 37 = .ok (.iconst 0, 1) := by decide +kernel
theorem dX8_isBelow_38 : decode cX8_isBelow 38 = .ok (.istore_n 2, 1) := by decide +kernel
theorem dX8_isBelow_39 : decode cX8_isBelow 39 = .ok (.iinc 3 1, 3) := by decide +kernel
theorem dX8_isBelow_42 : decode cX8_isBelow 42 = .ok (.goto (-38), 3) := by decide +kernel
theorem dX8_isBelow_45 : decode cX8_isBelow 45 = .ok (.iload_n 2, 1) := by decide +kernel
theorem dX8_isBelow_46 : decode cX8_isBelow 46 = .ok (.ireturn, 1) := by decide +kernel
theorem dX8_soldOff_0 : decode cX8_soldOff 0 = .ok (.aload_n 0, 1) := by decide +kernel
theorem dX8_soldOff_1 : decode cX8_soldOff 1 = .ok (.iload_n 1, 1) := by decide +kernel
theorem dX8_soldOff_2 : decode cX8_soldOff 2 = .ok (.iload_n 2, 1) := by decide +kernel
theorem dX8_soldOff_3 : decode cX8_soldOff 3 = .ok (.invokevirtual 200, 3) := by decide +kernel
theorem dX8_soldOff_6 : decode cX8_soldOff 6 = .ok (.ifCond .eq 21, 3) := by decide +kernel
theorem dX8_soldOff_9 : decode cX8_soldOff 9 = .ok (.aload_n 0, 1) := by decide +kernel
theorem dX8_soldOff_10 : decode cX8_soldOff 10 = .ok (.iload_n 3, 1) := by decide +kernel
theorem dX8_soldOff_11 : decode cX8_soldOff 11 = .ok (.invokevirtual 104, 3) := by decide +kernel
theorem dX8_soldOff_14 : decode cX8_soldOff 14 = .ok (.ifCond .eq 13, 3) := by decide +kernel
theorem dX8_soldOff_17 : decode cX8_soldOff 17 = .ok (.iload_n 3, 1) := by decide +kernel
theorem dX8_soldOff_18 : decode cX8_soldOff 18 = .ok (.iload_n 1, 1) := by decide +kernel
theorem dX8_soldOff_19 : decode cX8_soldOff 19 = .ok (.if_icmp .eq 8, 3) := by decide +kernel
theorem dX8_soldOff_22 : decode cX8_soldOff 22 = .ok (.iload_n 3, 1) := by decide +kernel
theorem dX8_soldOff_23 : decode cX8_soldOff 23 = .ok (.iload_n 2, 1) := by decide +kernel
theorem dX8_soldOff_24 : decode cX8_soldOff 24 = .ok (.if_icmp .ne 6, 3) := by decide +kernel
theorem dX8_soldOff_27 : decode cX8_soldOff 27 = .ok (.bipush (-101), 2) := by decide +kernel
theorem dX8_soldOff_29 : decode cX8_soldOff 29 = .ok (.ireturn, 1) := by decide +kernel
theorem dX8_soldOff_30 : decode cX8_soldOff 30 = .ok (.iload 4, 2) := by decide +kernel
theorem dX8_soldOff_32 : decode cX8_soldOff 32 = .ok (.iconst 0, 1) := by decide +kernel
theorem dX8_soldOff_33 : decode cX8_soldOff 33 = .ok (.bipush 9, 2) := by decide +kernel
theorem dX8_soldOff_35 : decode cX8_soldOff 35 = .ok (.invokestatic 94, 3) := by decide +kernel
theorem dX8_soldOff_38 : decode cX8_soldOff 38 = .ok (.ifCond .ne 6, 3) := by decide +kernel
theorem dX8_soldOff_41 : decode cX8_soldOff 41 = .ok (.bipush (-102), 2) := by decide +kernel
theorem dX8_soldOff_43 : decode cX8_soldOff 43 = .ok (.ireturn, 1) := by decide +kernel
theorem dX8_soldOff_44 : decode cX8_soldOff 44 = .ok (.aload_n 0, 1) := by decide +kernel
theorem dX8_soldOff_45 : decode cX8_soldOff 45 = .ok (.iload_n 1, 1) := by decide +kernel
theorem dX8_soldOff_46 : decode cX8_soldOff 46 = .ok (.iload_n 2, 1) := by decide +kernel
theorem dX8_soldOff_47 : decode cX8_soldOff 47 = .ok (.invokevirtual 203, 3) := by decide +kernel
theorem dX8_soldOff_50 : decode cX8_soldOff 50 = .ok (.ifCond .ne 6, 3) := by decide +kernel
theorem dX8_soldOff_53 : decode cX8_soldOff 53 = .ok (.bipush (-103), 2) := by decide +kernel
theorem dX8_soldOff_55 : decode cX8_soldOff 55 = .ok (.ireturn, 1) := by decide +kernel
theorem dX8_soldOff_56 : decode cX8_soldOff 56 = .ok (.aload_n 0, 1) := by decide +kernel
theorem dX8_soldOff_57 : decode cX8_soldOff 57 = .ok (.invokevirtual 213, 3) := by decide +kernel
theorem dX8_soldOff_60 : decode cX8_soldOff 60 = .ok (.ifCond .ne 5, 3) := by decide +kernel
theorem dX8_soldOff_63 : decode cX8_soldOff 63 = .ok (.iconst (-1), 1) := by decide +kernel
theorem dX8_soldOff_64 : decode cX8_soldOff 64 = .ok (.ireturn, 1) := by decide +kernel
theorem dX8_soldOff_65 : decode cX8_soldOff 65 = .ok (.iconst 0, 1) := by decide +kernel
theorem dX8_soldOff_66 : decode cX8_soldOff 66 = .ok (.istore 5, 2) := by decide +kernel
theorem dX8_soldOff_68 : decode cX8_soldOff 68 = .ok (.iconst 0, 1) := by decide +kernel
theorem dX8_soldOff_69 : decode cX8_soldOff 69 = .ok (.istore 6, 2) := by decide +kernel
theorem dX8_soldOff_71 : decode cX8_soldOff 71 = .ok (.iload 6, 2) := by decide +kernel
theorem dX8_soldOff_73 : decode cX8_soldOff 73 = .ok (.aload_n 0, 1) := by decide +kernel
theorem dX8_soldOff_74 : decode cX8_soldOff 74 = .ok (.getfield 98, 3) := by decide +kernel
theorem dX8_soldOff_77 : decode cX8_soldOff 77 = .ok (.if_icmp .ge 44, 3) := by decide +kernel
theorem dX8_soldOff_80 : decode cX8_soldOff 80 = .ok (.iload 5, 2) := by decide +kernel
theorem dX8_soldOff_82 : decode cX8_soldOff 82 = .ok (.aload_n 0, 1) := by decide +kernel
theorem dX8_soldOff_83 : decode cX8_soldOff 83 = .ok (.getfield 20, 3) := by decide +kernel
theorem dX8_soldOff_86 : decode cX8_soldOff 86 = .ok (.iload 6, 2) := by decide +kernel
theorem dX8_soldOff_88 : decode cX8_soldOff 88 = .ok (.iaload, 1) := by decide +kernel
theorem dX8_soldOff_89 : decode cX8_soldOff 89 = .ok (.iload_n 1, 1) := by decide +kernel
theorem dX8_soldOff_90 : decode cX8_soldOff 90 = .ok (.if_icmp .eq 14, 3) := by decide +kernel
theorem dX8_soldOff_93 : decode cX8_soldOff 93 = .ok (.aload_n 0, 1) := by decide +kernel
theorem dX8_soldOff_94 : decode cX8_soldOff 94 = .ok (.getfield 20, 3) := by decide +kernel
theorem dX8_soldOff_97 : decode cX8_soldOff 97 = .ok (.iload 6, 2) := by decide +kernel
theorem dX8_soldOff_99 : decode cX8_soldOff 99 = .ok (.iaload, 1) := by decide +kernel
theorem dX8_soldOff_100 : decode cX8_soldOff 100 = .ok (.iload_n 2, 1) := by decide +kernel
theorem dX8_soldOff_101 : decode cX8_soldOff 101 = .ok (.if_icmp .ne 10, 3) := by decide +kernel
theorem dX8_soldOff_104 : decode cX8_soldOff 104 = .ok (.iconst 1, 1) := by decide +kernel
theorem dX8_soldOff_105 : decode cX8_soldOff 105 = .ok (.iload 6, 2) := by decide +kernel
theorem dX8_soldOff_107 : decode cX8_soldOff 107 = .ok (.ishl, 1) := by decide +kernel
theorem dX8_soldOff_108 : decode cX8_soldOff 108 = .ok (.goto 4, 3) := by decide +kernel
theorem dX8_soldOff_111 : decode cX8_soldOff 111 = .ok (.iconst 0, 1) := by decide +kernel
theorem dX8_soldOff_112 : decode cX8_soldOff 112 = .ok (.ior, 1) := by decide +kernel
theorem dX8_soldOff_113 : decode cX8_soldOff 113 = .ok (.istore 5, 2) := by decide +kernel
theorem dX8_soldOff_115 : decode cX8_soldOff 115 = .ok (.iinc 6 1, 3) := by decide +kernel
theorem dX8_soldOff_118 : decode cX8_soldOff 118 = .ok (.goto (-47), 3) := by decide +kernel
theorem dX8_soldOff_121 : decode cX8_soldOff 121 = .ok (.iconst (-1), 1) := by decide +kernel
theorem dX8_soldOff_122 : decode cX8_soldOff 122 = .ok (.istore 6, 2) := by decide +kernel
theorem dX8_soldOff_124 : decode cX8_soldOff 124 = .ok (.iconst 0, 1) := by decide +kernel
theorem dX8_soldOff_125 : decode cX8_soldOff 125 = .ok (.istore 7, 2) := by decide +kernel
theorem dX8_soldOff_127 : decode cX8_soldOff 127 = .ok (.iload 7, 2) := by decide +kernel
theorem dX8_soldOff_129 : decode cX8_soldOff 129 = .ok (.iconst 1, 1) := by decide +kernel
theorem dX8_soldOff_130 : decode cX8_soldOff 130 = .ok (.aload_n 0, 1) := by decide +kernel
theorem dX8_soldOff_131 : decode cX8_soldOff 131 = .ok (.getfield 98, 3) := by decide +kernel
theorem dX8_soldOff_134 : decode cX8_soldOff 134 = .ok (.ishl, 1) := by decide +kernel
theorem dX8_soldOff_135 : decode cX8_soldOff 135 = .ok (.if_icmp .ge 97, 3) := by decide +kernel
theorem dX8_soldOff_138 : decode cX8_soldOff 138 = .ok (.iload 7, 2) := by decide +kernel
theorem dX8_soldOff_140 : decode cX8_soldOff 140 = .ok (.iload 5, 2) := by decide +kernel
theorem dX8_soldOff_142 : decode cX8_soldOff 142 = .ok (.iconst (-1), 1) := by decide +kernel
theorem dX8_soldOff_143 : decode cX8_soldOff 143 = .ok (.ixor, 1) := by decide +kernel
theorem dX8_soldOff_144 : decode cX8_soldOff 144 = .ok (.iand, 1) := by decide +kernel
theorem dX8_soldOff_145 : decode cX8_soldOff 145 = .ok (.ifCond .ne 41, 3) := by decide +kernel
theorem dX8_soldOff_148 : decode cX8_soldOff 148 = .ok (.aload_n 0, 1) := by decide +kernel
theorem dX8_soldOff_149 : decode cX8_soldOff 149 = .ok (.iload_n 3, 1) := by decide +kernel
theorem dX8_soldOff_150 : decode cX8_soldOff 150 = .ok (.invokevirtual 108, 3) := by decide +kernel
theorem dX8_soldOff_153 : decode cX8_soldOff 153 = .ok (.iload 7, 2) := by decide +kernel
theorem dX8_soldOff_155 : decode cX8_soldOff 155 = .ok (.invokestatic 188, 3) := by decide +kernel
theorem dX8_soldOff_158 : decode cX8_soldOff 158 = .ok (.iadd, 1) := by decide +kernel
theorem dX8_soldOff_159 : decode cX8_soldOff 159 = .ok (.iconst 3, 1) := by decide +kernel
theorem dX8_soldOff_160 : decode cX8_soldOff 160 = .ok (.if_icmp .gt 26, 3) := by decide +kernel
theorem dX8_soldOff_163 : decode cX8_soldOff 163 = .ok (.iload 6, 2) := by decide +kernel
theorem dX8_soldOff_165 : decode cX8_soldOff 165 = .ok (.iconst (-1), 1) := by decide +kernel
theorem dX8_soldOff_166 : decode cX8_soldOff 166 = .ok (.if_icmp .eq 16, 3) := by decide +kernel
theorem dX8_soldOff_169 : decode cX8_soldOff 169 = .ok (.iload 7, 2) := by decide +kernel
theorem dX8_soldOff_171 : decode cX8_soldOff 171 = .ok (.invokestatic 188, 3) := by decide +kernel
theorem dX8_soldOff_174 : decode cX8_soldOff 174 = .ok (.iload 6, 2) := by decide +kernel
theorem dX8_soldOff_176 : decode cX8_soldOff 176 = .ok (.invokestatic 188, 3) := by decide +kernel
theorem dX8_soldOff_179 : decode cX8_soldOff 179 = .ok (.if_icmp .ge 7, 3) := by decide +kernel
theorem dX8_soldOff_182 : decode cX8_soldOff 182 = .ok (.iconst 1, 1) := by decide +kernel
theorem dX8_soldOff_183 : decode cX8_soldOff 183 = .ok (.goto 4, 3) := by decide +kernel
theorem dX8_soldOff_186 : decode cX8_soldOff 186 = .ok (.iconst 0, 1) := by decide +kernel
theorem dX8_soldOff_187 : decode cX8_soldOff 187 = .ok (.istore 8, 2) := by decide +kernel
theorem dX8_soldOff_189 : decode cX8_soldOff 189 = .ok (.iload 8, 2) := by decide +kernel
theorem dX8_soldOff_191 : decode cX8_soldOff 191 = .ok (.ifCond .eq 31, 3) := by decide +kernel
theorem dX8_soldOff_194 : decode cX8_soldOff 194 = .ok (.aload_n 0, 1) := by decide +kernel
theorem dX8_soldOff_195 : decode cX8_soldOff 195 = .ok (.iload_n 1, 1) := by decide +kernel
theorem dX8_soldOff_196 : decode cX8_soldOff 196 = .ok (.iload_n 2, 1) := by decide +kernel
theorem dX8_soldOff_197 : decode cX8_soldOff 197 = .ok (.iconst (-1), 1) := by decide +kernel
theorem dX8_soldOff_198 : decode cX8_soldOff 198 = .ok (.iconst (-1), 1) := by decide +kernel
theorem dX8_soldOff_199 : decode cX8_soldOff 199 = .ok (.iload 7, 2) := by decide +kernel
theorem dX8_soldOff_201 : decode cX8_soldOff 201 = .ok (.iload_n 3, 1) := by decide +kernel
theorem dX8_soldOff_202 : decode cX8_soldOff 202 = .ok (.invokevirtual 217, 3) := by decide +kernel
theorem dX8_soldOff_205 : decode cX8_soldOff 205 = .ok (.ifCond .eq 17, 3) := by decide +kernel
theorem dX8_soldOff_208 : decode cX8_soldOff 208 = .ok (.aload_n 0, 1) := by decide +kernel
theorem dX8_soldOff_209 : decode cX8_soldOff 209 = .ok (.iload 4, 2) := by decide +kernel
theorem dX8_soldOff_211 : decode cX8_soldOff 211 = .ok (.invokevirtual 225, 3) := by decide +kernel
theorem dX8_soldOff_214 : decode cX8_soldOff 214 = .ok (.ifCond .eq 8, 3) := by decide +kernel
theorem dX8_soldOff_217 : decode cX8_soldOff 217 = .ok (.iload 7, 2) := by decide +kernel
theorem dX8_soldOff_219 : decode cX8_soldOff 219 = .ok (.goto 5, 3) := by decide +kernel
theorem dX8_soldOff_222 : decode cX8_soldOff 222 = .ok (.iload 6, 2) := by decide +kernel
theorem dX8_soldOff_224 : decode cX8_soldOff 224 = .ok (.istore 6, 2) := by decide +kernel
theorem dX8_soldOff_226 : decode cX8_soldOff 226 = .ok (.iinc 7 1, 3) := by decide +kernel
theorem dX8_soldOff_229 : decode cX8_soldOff 229 = .ok (.goto (-102), 3) := by decide +kernel
theorem dX8_soldOff_232 : decode cX8_soldOff 232 = .ok (.iload 6, 2) := by decide +kernel
theorem dX8_soldOff_234 : decode cX8_soldOff 234 = .ok (.ireturn, 1) := by decide +kernel
theorem dX8_twice_0 : decode cX8_twice 0 = .ok (.aload_n 0, 1) := by decide +kernel
theorem dX8_twice_1 : decode cX8_twice 1 = .ok (.iload_n 1, 1) := by decide +kernel
theorem dX8_twice_2 : decode cX8_twice 2 = .ok (.iload_n 2, 1) := by decide +kernel
theorem dX8_twice_3 : decode cX8_twice 3 = .ok (.invokevirtual 200, 3) := by decide +kernel
theorem dX8_twice_6 : decode cX8_twice 6 = .ok (.ifCond .eq 35, 3) := by decide +kernel
theorem dX8_twice_9 : decode cX8_twice 9 = .ok (.aload_n 0, 1) := by decide +kernel
theorem dX8_twice_10 : decode cX8_twice 10 = .ok (.iload_n 3, 1) := by decide +kernel
theorem dX8_twice_11 : decode cX8_twice 11 = .ok (.iload 4, 2) := by decide +kernel
theorem dX8_twice_13 : decode cX8_twice 13 = .ok (.invokevirtual 200, 3) := by decide +kernel
theorem dX8_twice_16 : decode cX8_twice 16 = .ok (.ifCond .eq 25, 3) := by decide +kernel
theorem dX8_twice_19 : decode cX8_twice 19 = .ok (.iload_n 1, 1) := by decide +kernel
theorem dX8_twice_20 : decode cX8_twice 20 = .ok (.iload_n 3, 1) := by decide +kernel
theorem dX8_twice_21 : decode cX8_twice 21 = .ok (.if_icmp .eq 20, 3) := by decide +kernel
theorem dX8_twice_24 : decode cX8_twice 24 = .ok (.iload_n 1, 1) := by decide +kernel
theorem dX8_twice_25 : decode cX8_twice 25 = .ok (.iload 4, 2) := by decide +kernel
theorem dX8_twice_27 : decode cX8_twice 27 = .ok (.if_icmp .eq 14, 3) := by decide +kernel
theorem dX8_twice_30 : decode cX8_twice 30 = .ok (.iload_n 2, 1) := by decide +kernel
theorem dX8_twice_31 : decode cX8_twice 31 = .ok (.iload_n 3, 1) := by decide +kernel
theorem dX8_twice_32 : decode cX8_twice 32 = .ok (.if_icmp .eq 9, 3) := by decide +kernel
theorem dX8_twice_35 : decode cX8_twice 35 = .ok (.iload_n 2, 1) := by decide +kernel
theorem dX8_twice_36 : decode cX8_twice 36 = .ok (.iload 4, 2) := by decide +kernel
theorem dX8_twice_38 : decode cX8_twice 38 = .ok (.if_icmp .ne 6, 3) := by decide +kernel
theorem dX8_twice_41 : decode cX8_twice 41 = .ok (.bipush (-101), 2) := by decide +kernel
theorem dX8_twice_43 : decode cX8_twice 43 = .ok (.ireturn, 1) := by decide +kernel
theorem dX8_twice_44 : decode cX8_twice 44 = .ok (.iload 5, 2) := by decide +kernel
theorem dX8_twice_46 : decode cX8_twice 46 = .ok (.iconst 0, 1) := by decide +kernel
theorem dX8_twice_47 : decode cX8_twice 47 = .ok (.iconst 2, 1) := by decide +kernel
theorem dX8_twice_48 : decode cX8_twice 48 = .ok (.invokestatic 94, 3) := by decide +kernel
theorem dX8_twice_51 : decode cX8_twice 51 = .ok (.ifCond .ne 6, 3) := by decide +kernel
theorem dX8_twice_54 : decode cX8_twice 54 = .ok (.bipush (-102), 2) := by decide +kernel
theorem dX8_twice_56 : decode cX8_twice 56 = .ok (.ireturn, 1) := by decide +kernel
theorem dX8_twice_57 : decode cX8_twice 57 = .ok (.aload_n 0, 1) := by decide +kernel
theorem dX8_twice_58 : decode cX8_twice 58 = .ok (.iload_n 1, 1) := by decide +kernel
theorem dX8_twice_59 : decode cX8_twice 59 = .ok (.iload_n 2, 1) := by decide +kernel
theorem dX8_twice_60 : decode cX8_twice 60 = .ok (.invokevirtual 203, 3) := by decide +kernel
theorem dX8_twice_63 : decode cX8_twice 63 = .ok (.ifCond .eq 13, 3) := by decide +kernel
theorem dX8_twice_66 : decode cX8_twice 66 = .ok (.aload_n 0, 1) := by decide +kernel
theorem dX8_twice_67 : decode cX8_twice 67 = .ok (.iload_n 3, 1) := by decide +kernel
theorem dX8_twice_68 : decode cX8_twice 68 = .ok (.iload 4, 2) := by decide +kernel
theorem dX8_twice_70 : decode cX8_twice 70 = .ok (.invokevirtual 203, 3) := by decide +kernel
theorem dX8_twice_73 : decode cX8_twice 73 = .ok (.ifCond .ne 6, 3) := by decide +kernel
theorem dX8_twice_76 : decode cX8_twice 76 = .ok (.bipush (-103), 2) := by decide +kernel
theorem dX8_twice_78 : decode cX8_twice 78 = .ok (.ireturn, 1) := by decide +kernel
theorem dX8_twice_79 : decode cX8_twice 79 = .ok (.aload_n 0, 1) := by decide +kernel
theorem dX8_twice_80 : decode cX8_twice 80 = .ok (.invokevirtual 213, 3) := by decide +kernel
theorem dX8_twice_83 : decode cX8_twice 83 = .ok (.ifCond .eq 53, 3) := by decide +kernel
theorem dX8_twice_86 : decode cX8_twice 86 = .ok (.iload 5, 2) := by decide +kernel
theorem dX8_twice_88 : decode cX8_twice 88 = .ok (.iconst 1, 1) := by decide +kernel
theorem dX8_twice_89 : decode cX8_twice 89 = .ok (.if_icmp .ne 20, 3) := by decide +kernel
theorem dX8_twice_92 : decode cX8_twice 92 = .ok (.aload_n 0, 1) := by decide +kernel
theorem dX8_twice_93 : decode cX8_twice 93 = .ok (.iload_n 3, 1) := by decide +kernel
theorem dX8_twice_94 : decode cX8_twice 94 = .ok (.iload 4, 2) := by decide +kernel
theorem dX8_twice_96 : decode cX8_twice 96 = .ok (.iconst (-1), 1) := by decide +kernel
theorem dX8_twice_97 : decode cX8_twice 97 = .ok (.iconst (-1), 1) := by decide +kernel
theorem dX8_twice_98 : decode cX8_twice 98 = .ok (.iconst 0, 1) := by decide +kernel
theorem dX8_twice_99 : decode cX8_twice 99 = .ok (.iconst (-1), 1) := by decide +kernel
theorem dX8_twice_100 : decode cX8_twice 100 = .ok (.invokevirtual 217, 3) := by decide +kernel
theorem dX8_twice_103 : decode cX8_twice 103 = .ok (.ifCond .eq 33, 3) := by decide +kernel
theorem dX8_twice_106 : decode cX8_twice 106 = .ok (.goto 26, 3) := by decide +kernel
theorem dX8_twice_109 : decode cX8_twice 109 = .ok (.aload_n 0, 1) := by decide +kernel
theorem dX8_twice_110 : decode cX8_twice 110 = .ok (.iload_n 1, 1) := by decide +kernel
theorem dX8_twice_111 : decode cX8_twice 111 = .ok (.iload_n 2, 1) := by decide +kernel
theorem dX8_twice_112 : decode cX8_twice 112 = .ok (.iload 5, 2) := by decide +kernel
theorem dX8_twice_114 : decode cX8_twice 114 = .ok (.ifCond .ne 7, 3) := by decide +kernel
theorem dX8_twice_117 : decode cX8_twice 117 = .ok (.iconst (-1), 1) := by decide +kernel
theorem dX8_twice_118 : decode cX8_twice 118 = .ok (.goto 4, 3) := by decide +kernel
theorem dX8_twice_121 : decode cX8_twice 121 = .ok (.iload_n 3, 1) := by decide +kernel
theorem dX8_twice_122 : decode cX8_twice 122 = .ok (.iload 4, 2) := by decide +kernel
theorem dX8_twice_124 : decode cX8_twice 124 = .ok (.iconst 0, 1) := by decide +kernel
theorem dX8_twice_125 : decode cX8_twice 125 = .ok (.iconst (-1), 1) := by decide +kernel
theorem dX8_twice_126 : decode cX8_twice 126 = .ok (.invokevirtual 217, 3) := by decide +kernel
theorem dX8_twice_129 : decode cX8_twice 129 = .ok (.ifCond .eq 7, 3) := by decide +kernel
theorem dX8_twice_132 : decode cX8_twice 132 = .ok (.iconst 1, 1) := by decide +kernel
theorem dX8_twice_133 : decode cX8_twice 133 = .ok (.goto 4, 3) := by decide +kernel
theorem dX8_twice_136 : decode cX8_twice 136 = .ok (.iconst 0, 1) := by decide +kernel
theorem dX8_twice_137 : decode cX8_twice 137 = .ok (.istore 6, 2) := by decide +kernel
theorem dX8_twice_139 : decode cX8_twice 139 = .ok (.iload 6, 2) := by decide +kernel
theorem dX8_twice_141 : decode cX8_twice 141 = .ok (.ifCond .eq 11, 3) := by decide +kernel
theorem dX8_twice_144 : decode cX8_twice 144 = .ok (.aload_n 0, 1) := by decide +kernel
theorem dX8_twice_145 : decode cX8_twice 145 = .ok (.iconst 0, 1) := by decide +kernel
theorem dX8_twice_146 : decode cX8_twice 146 = .ok (.invokevirtual 221, 3) := by decide +kernel
theorem dX8_twice_149 : decode cX8_twice 149 = .ok (.goto 4, 3) := by decide +kernel
theorem dX8_twice_152 : decode cX8_twice 152 = .ok (.iconst (-1), 1) := by decide +kernel
theorem dX8_twice_153 : decode cX8_twice 153 = .ok (.ireturn, 1) := by decide +kernel
theorem dX8_letters_0 : decode cX8_letters 0 = .ok (.iconst 0, 1) := by decide +kernel
theorem dX8_letters_1 : decode cX8_letters 1 = .ok (.istore_n 3, 1) := by decide +kernel
theorem dX8_letters_2 : decode cX8_letters 2 = .ok (.iconst 0, 1) := by decide +kernel
theorem dX8_letters_3 : decode cX8_letters 3 = .ok (.istore 4, 2) := by decide +kernel
theorem dX8_letters_5 : decode cX8_letters 5 = .ok (.iconst 0, 1) := by decide +kernel
theorem dX8_letters_6 : decode cX8_letters 6 = .ok (.istore 5, 2) := by decide +kernel
theorem dX8_letters_8 : decode cX8_letters 8 = .ok (.iload 5, 2) := by decide +kernel
theorem dX8_letters_10 : decode cX8_letters 10 = .ok (.bipush 8, 2) := by decide +kernel
theorem dX8_letters_12 : decode cX8_letters 12 = .ok (.if_icmp .ge 73, 3) := by decide +kernel
theorem dX8_letters_15 : decode cX8_letters 15 = .ok (.lload_n 1, 1) := by decide +kernel
theorem dX8_letters_16 : decode cX8_letters 16 = .ok (.bipush 8, 2) := by decide +kernel
theorem dX8_letters_18 : decode cX8_letters 18 = .ok (.iload 5, 2) := by decide +kernel
theorem dX8_letters_20 : decode cX8_letters 20 = .ok (.imul, 1) := by decide +kernel
theorem dX8_letters_21 : decode cX8_letters 21 = .ok (.lshr, 1) := by decide +kernel
theorem dX8_letters_22 : decode cX8_letters 22 = .ok (.ldc2_w 228, 3) := by decide +kernel
theorem dX8_letters_25 : decode cX8_letters 25 = .ok (.land, 1) := by decide +kernel
theorem dX8_letters_26 : decode cX8_letters 26 = .ok (.l2i, 1) := by decide +kernel
theorem dX8_letters_27 : decode cX8_letters 27 = .ok (.istore 6, 2) := by decide +kernel
theorem dX8_letters_29 : decode cX8_letters 29 = .ok (.iload 6, 2) := by decide +kernel
theorem dX8_letters_31 : decode cX8_letters 31 = .ok (.bipush 126, 2) := by decide +kernel
theorem dX8_letters_33 : decode cX8_letters 33 = .ok (.if_icmp .gt 13, 3) := by decide +kernel
theorem dX8_letters_36 : decode cX8_letters 36 = .ok (.iload 4, 2) := by decide +kernel
theorem dX8_letters_38 : decode cX8_letters 38 = .ok (.ifCond .eq 11, 3) := by decide +kernel
theorem dX8_letters_41 : decode cX8_letters 41 = .ok (.iload 6, 2) := by decide +kernel
theorem dX8_letters_43 : decode cX8_letters 43 = .ok (.ifCond .eq 6, 3) := by decide +kernel
theorem dX8_letters_46 : decode cX8_letters 46 = .ok (.bipush (-102), 2) := by decide +kernel
theorem dX8_letters_48 : decode cX8_letters 48 = .ok (.ireturn, 1) := by decide +kernel
theorem dX8_letters_49 : decode cX8_letters 49 = .ok (.iload 4, 2) := by decide +kernel
theorem dX8_letters_51 : decode cX8_letters 51 = .ok (.ifCond .ne 8, 3) := by decide +kernel
theorem dX8_letters_54 : decode cX8_letters 54 = .ok (.iload 6, 2) := by decide +kernel
theorem dX8_letters_56 : decode cX8_letters 56 = .ok (.ifCond .ne 7, 3) := by decide +kernel
theorem dX8_letters_59 : decode cX8_letters 59 = .ok (.iconst 1, 1) := by decide +kernel
theorem dX8_letters_60 : decode cX8_letters 60 = .ok (.goto 4, 3) := by decide +kernel
theorem dX8_letters_63 : decode cX8_letters 63 = .ok (.iconst 0, 1) := by decide +kernel
theorem dX8_letters_64 : decode cX8_letters 64 = .ok (.istore 4, 2) := by decide +kernel
theorem dX8_letters_66 : decode cX8_letters 66 = .ok (.iload_n 3, 1) := by decide +kernel
theorem dX8_letters_67 : decode cX8_letters 67 = .ok (.iload 6, 2) := by decide +kernel
theorem dX8_letters_69 : decode cX8_letters 69 = .ok (.ifCond .ne 7, 3) := by decide +kernel
theorem dX8_letters_72 : decode cX8_letters 72 = .ok (.iconst 0, 1) := by decide +kernel
theorem dX8_letters_73 : decode cX8_letters 73 = .ok (.goto 4, 3) := by decide +kernel
theorem dX8_letters_76 : decode cX8_letters 76 = .ok (.iconst 1, 1) := by decide +kernel
theorem dX8_letters_77 : decode cX8_letters 77 = .ok (.iadd, 1) := by decide +kernel
theorem dX8_letters_78 : decode cX8_letters 78 = .ok (.istore_n 3, 1) := by decide +kernel
theorem dX8_letters_79 : decode cX8_letters 79 = .ok (.iinc 5 1, 3) := by decide +kernel
theorem dX8_letters_82 : decode cX8_letters 82 = .ok (.goto (-74), 3) := by decide +kernel
theorem dX8_letters_85 : decode cX8_letters 85 = .ok (.aload_n 0, 1) := by decide +kernel
theorem dX8_letters_86 : decode cX8_letters 86 = .ok (.getfield 230, 3) := by decide +kernel
theorem dX8_letters_89 : decode cX8_letters 89 = .ok (.iload_n 3, 1) := by decide +kernel
theorem dX8_letters_90 : decode cX8_letters 90 = .ok (.iadd, 1) := by decide +kernel
theorem dX8_letters_91 : decode cX8_letters 91 = .ok (.bipush 50, 2) := by decide +kernel
theorem dX8_letters_93 : decode cX8_letters 93 = .ok (.if_icmp .le 6, 3) := by decide +kernel
theorem dX8_letters_96 : decode cX8_letters 96 = .ok (.bipush (-104), 2) := by decide +kernel
theorem dX8_letters_98 : decode cX8_letters 98 = .ok (.ireturn, 1) := by decide +kernel
theorem dX8_letters_99 : decode cX8_letters 99 = .ok (.iconst 0, 1) := by decide +kernel
theorem dX8_letters_100 : decode cX8_letters 100 = .ok (.istore 5, 2) := by decide +kernel
theorem dX8_letters_102 : decode cX8_letters 102 = .ok (.iload 5, 2) := by decide +kernel
theorem dX8_letters_104 : decode cX8_letters 104 = .ok (.iload_n 3, 1) := by decide +kernel
theorem dX8_letters_105 : decode cX8_letters 105 = .ok (.if_icmp .ge 30, 3) := by decide +kernel
theorem dX8_letters_108 : decode cX8_letters 108 = .ok (.aload_n 0, 1) := by decide +kernel
theorem dX8_letters_109 : decode cX8_letters 109 = .ok (.getfield 42, 3) := by decide +kernel
theorem dX8_letters_112 : decode cX8_letters 112 = .ok (.aload_n 0, 1) := by decide +kernel
theorem dX8_letters_113 : decode cX8_letters 113 = .ok (.getfield 230, 3) := by decide +kernel
theorem dX8_letters_116 : decode cX8_letters 116 = .ok (.iload 5, 2) := by decide +kernel
theorem dX8_letters_118 : decode cX8_letters 118 = .ok (.iadd, 1) := by decide +kernel
theorem dX8_letters_119 : decode cX8_letters 119 = .ok (.lload_n 1, 1) := by decide +kernel
theorem dX8_letters_120 : decode cX8_letters 120 = .ok (.bipush 8, 2) := by decide +kernel
theorem dX8_letters_122 : decode cX8_letters 122 = .ok (.iload 5, 2) := by decide +kernel
theorem dX8_letters_124 : decode cX8_letters 124 = .ok (.imul, 1) := by decide +kernel
theorem dX8_letters_125 : decode cX8_letters 125 = .ok (.lshr, 1) := by decide +kernel
theorem dX8_letters_126 : decode cX8_letters 126 = .ok (.l2i, 1) := by decide +kernel
theorem dX8_letters_127 : decode cX8_letters 127 = .ok (.i2b, 1) := by decide +kernel
theorem dX8_letters_128 : decode cX8_letters 128 = .ok (.bastore, 1) := by decide +kernel
theorem dX8_letters_129 : decode cX8_letters 129 = .ok (.iinc 5 1, 3) := by decide +kernel
theorem dX8_letters_132 : decode cX8_letters 132 = .ok (.goto (-30), 3) := by decide +kernel
theorem dX8_letters_135 : decode cX8_letters 135 = .ok (.aload_n 0, 1) := by decide +kernel
theorem dX8_letters_136 : decode cX8_letters 136 = .ok (.dup, 1) := by decide +kernel
theorem dX8_letters_137 : decode cX8_letters 137 = .ok (.getfield 230, 3) := by decide +kernel
theorem dX8_letters_140 : decode cX8_letters 140 = .ok (.iload_n 3, 1) := by decide +kernel
theorem dX8_letters_141 : decode cX8_letters 141 = .ok (.iadd, 1) := by decide +kernel
theorem dX8_letters_142 : decode cX8_letters 142 = .ok (.putfield 230, 3) := by decide +kernel
theorem dX8_letters_145 : decode cX8_letters 145 = .ok (.aload_n 0, 1) := by decide +kernel
theorem dX8_letters_146 : decode cX8_letters 146 = .ok (.getfield 230, 3) := by decide +kernel
theorem dX8_letters_149 : decode cX8_letters 149 = .ok (.ireturn, 1) := by decide +kernel
theorem dX8_blank_0 : decode cX8_blank 0 = .ok (.aload_n 0, 1) := by decide +kernel
theorem dX8_blank_1 : decode cX8_blank 1 = .ok (.getfield 230, 3) := by decide +kernel
theorem dX8_blank_4 : decode cX8_blank 4 = .ok (.istore_n 1, 1) := by decide +kernel
theorem dX8_blank_5 : decode cX8_blank 5 = .ok (.aload_n 0, 1) := by decide +kernel
theorem dX8_blank_6 : decode cX8_blank 6 = .ok (.iconst 0, 1) := by decide +kernel
theorem dX8_blank_7 : decode cX8_blank 7 = .ok (.putfield 230, 3) := by decide +kernel
theorem dX8_blank_10 : decode cX8_blank 10 = .ok (.iload_n 1, 1) := by decide +kernel
theorem dX8_blank_11 : decode cX8_blank 11 = .ok (.ireturn, 1) := by decide +kernel
theorem dX8_isDigit_0 : decode cX8_isDigit 0 = .ok (.iload_n 0, 1) := by decide +kernel
theorem dX8_isDigit_1 : decode cX8_isDigit 1 = .ok (.bipush 48, 2) := by decide +kernel
theorem dX8_isDigit_3 : decode cX8_isDigit 3 = .ok (.bipush 57, 2) := by decide +kernel
theorem dX8_isDigit_5 : decode cX8_isDigit 5 = .ok (.invokestatic 94, 3) := by decide +kernel
theorem dX8_isDigit_8 : decode cX8_isDigit 8 = .ok (.ireturn, 1) := by decide +kernel
theorem dX8_isName_0 : decode cX8_isName 0 = .ok (.iload_n 0, 1) := by decide +kernel
theorem dX8_isName_1 : decode cX8_isName 1 = .ok (.bipush 115, 2) := by decide +kernel
theorem dX8_isName_3 : decode cX8_isName 3 = .ok (.if_icmp .eq 21, 3) := by decide +kernel
theorem dX8_isName_6 : decode cX8_isName 6 = .ok (.iload_n 0, 1) := by decide +kernel
theorem dX8_isName_7 : decode cX8_isName 7 = .ok (.bipush 111, 2) := by decide +kernel
theorem dX8_isName_9 : decode cX8_isName 9 = .ok (.if_icmp .eq 15, 3) := by decide +kernel
theorem dX8_isName_12 : decode cX8_isName 12 = .ok (.iload_n 0, 1) := by decide +kernel
theorem dX8_isName_13 : decode cX8_isName 13 = .ok (.bipush 114, 2) := by decide +kernel
theorem dX8_isName_15 : decode cX8_isName 15 = .ok (.if_icmp .eq 9, 3) := by decide +kernel
theorem dX8_isName_18 : decode cX8_isName 18 = .ok (.iload_n 0, 1) := by decide +kernel
theorem dX8_isName_19 : decode cX8_isName 19 = .ok (.bipush 100, 2) := by decide +kernel
theorem dX8_isName_21 : decode cX8_isName 21 = .ok (.if_icmp .ne 7, 3) := by decide +kernel
theorem dX8_isName_24 : decode cX8_isName 24 = .ok (.iconst 1, 1) := by decide +kernel
theorem dX8_isName_25 : decode cX8_isName 25 = .ok (.goto 4, 3) := by decide +kernel
theorem dX8_isName_28 : decode cX8_isName 28 = .ok (.iconst 0, 1) := by decide +kernel
theorem dX8_isName_29 : decode cX8_isName 29 = .ok (.ireturn, 1) := by decide +kernel
theorem dX8_readPage_0 : decode cX8_readPage 0 = .ok (.iconst 0, 1) := by decide +kernel
theorem dX8_readPage_1 : decode cX8_readPage 1 = .ok (.istore_n 1, 1) := by decide +kernel
theorem dX8_readPage_2 : decode cX8_readPage 2 = .ok (.iconst 0, 1) := by decide +kernel
theorem dX8_readPage_3 : decode cX8_readPage 3 = .ok (.istore_n 2, 1) := by decide +kernel
theorem dX8_readPage_4 : decode cX8_readPage 4 = .ok (.iconst 0, 1) := by decide +kernel
theorem dX8_readPage_5 : decode cX8_readPage 5 = .ok (.istore_n 3, 1) := by decide +kernel
theorem dX8_readPage_6 : decode cX8_readPage 6 = .ok (.iconst 1, 1) := by decide +kernel
theorem dX8_readPage_7 : decode cX8_readPage 7 = .ok (.istore 4, 2) := by decide +kernel
theorem dX8_readPage_9 : decode cX8_readPage 9 = .ok (.iload_n 3, 1) := by decide +kernel
theorem dX8_readPage_10 : decode cX8_readPage 10 = .ok (.aload_n 0, 1) := by decide +kernel
theorem dX8_readPage_11 : decode cX8_readPage 11 = .ok (.getfield 230, 3) := by decide +kernel
theorem dX8_readPage_14 : decode cX8_readPage 14 = .ok (.if_icmp .ge 202, 3) := by decide +kernel
theorem dX8_readPage_17 : decode cX8_readPage 17 = .ok (.iload 4, 2) := by decide +kernel
theorem dX8_readPage_19 : decode cX8_readPage 19 = .ok (.ifCond .eq 197, 3) := by decide +kernel
theorem dX8_readPage_22 : decode cX8_readPage 22 = .ok (.aload_n 0, 1) := by decide +kernel
theorem dX8_readPage_23 : decode cX8_readPage 23 = .ok (.getfield 42, 3) := by decide +kernel
theorem dX8_readPage_26 : decode cX8_readPage 26 = .ok (.iload_n 3, 1) := by decide +kernel
theorem dX8_readPage_27 : decode cX8_readPage 27 = .ok (.baload, 1) := by decide +kernel
theorem dX8_readPage_28 : decode cX8_readPage 28 = .ok (.istore 5, 2) := by decide +kernel
theorem dX8_readPage_30 : decode cX8_readPage 30 = .ok (.iload_n 1, 1) := by decide +kernel
theorem dX8_readPage_31 : decode cX8_readPage 31 = .ok (.iconst 2, 1) := by decide +kernel
theorem dX8_readPage_32 : decode cX8_readPage 32 = .ok (.if_icmp .le 7, 3) := by decide +kernel
theorem dX8_readPage_35 : decode cX8_readPage 35 = .ok (.iconst 1, 1) := by decide +kernel
theorem dX8_readPage_36 : decode cX8_readPage 36 = .ok (.goto 4, 3) := by decide +kernel
theorem dX8_readPage_39 : decode cX8_readPage 39 = .ok (.iconst 0, 1) := by decide +kernel
theorem dX8_readPage_40 : decode cX8_readPage 40 = .ok (.istore 6, 2) := by decide +kernel
theorem dX8_readPage_42 : decode cX8_readPage 42 = .ok (.iload_n 1, 1) := by decide +kernel
theorem dX8_readPage_43 : decode cX8_readPage 43 = .ok (.ifCond .ne 15, 3) := by decide +kernel
theorem dX8_readPage_46 : decode cX8_readPage 46 = .ok (.iload 5, 2) := by decide +kernel
theorem dX8_readPage_48 : decode cX8_readPage 48 = .ok (.bipush 33, 2) := by decide +kernel
theorem dX8_readPage_50 : decode cX8_readPage 50 = .ok (.if_icmp .ne 8, 3) := by decide +kernel
theorem dX8_readPage_53 : decode cX8_readPage 53 = .ok (.iconst 0, 1) := by decide +kernel
theorem dX8_readPage_54 : decode cX8_readPage 54 = .ok (.istore_n 1, 1) := by decide +kernel
theorem dX8_readPage_55 : decode cX8_readPage 55 = .ok (.goto 145, 3) := by decide +kernel
theorem dX8_readPage_58 : decode cX8_readPage 58 = .ok (.iload_n 1, 1) := by decide +kernel
theorem dX8_readPage_59 : decode cX8_readPage 59 = .ok (.ifCond .ne 16, 3) := by decide +kernel
theorem dX8_readPage_62 : decode cX8_readPage 62 = .ok (.iload 5, 2) := by decide +kernel
theorem dX8_readPage_64 : decode cX8_readPage 64 = .ok (.bipush 40, 2) := by decide +kernel
theorem dX8_readPage_66 : decode cX8_readPage 66 = .ok (.if_icmp .ne 9, 3) := by decide +kernel
theorem dX8_readPage_69 : decode cX8_readPage 69 = .ok (.iinc 2 1, 3) := by decide +kernel
theorem dX8_readPage_72 : decode cX8_readPage 72 = .ok (.goto 128, 3) := by decide +kernel
theorem dX8_readPage_75 : decode cX8_readPage 75 = .ok (.iload_n 1, 1) := by decide +kernel
theorem dX8_readPage_76 : decode cX8_readPage 76 = .ok (.ifCond .ne 16, 3) := by decide +kernel
theorem dX8_readPage_79 : decode cX8_readPage 79 = .ok (.iload 5, 2) := by decide +kernel
theorem dX8_readPage_81 : decode cX8_readPage 81 = .ok (.invokestatic 233, 3) := by decide +kernel
theorem dX8_readPage_84 : decode cX8_readPage 84 = .ok (.ifCond .eq 8, 3) := by decide +kernel
theorem dX8_readPage_87 : decode cX8_readPage 87 = .ok (.iconst 1, 1) := by decide +kernel
theorem dX8_readPage_88 : decode cX8_readPage 88 = .ok (.istore_n 1, 1) := by decide +kernel
theorem dX8_readPage_89 : decode cX8_readPage 89 = .ok (.goto 111, 3) := by decide +kernel
theorem dX8_readPage_92 : decode cX8_readPage 92 = .ok (.iload_n 1, 1) := by decide +kernel
theorem dX8_readPage_93 : decode cX8_readPage 93 = .ok (.iconst 1, 1) := by decide +kernel
theorem dX8_readPage_94 : decode cX8_readPage 94 = .ok (.if_icmp .ne 29, 3) := by decide +kernel
theorem dX8_readPage_97 : decode cX8_readPage 97 = .ok (.iload 5, 2) := by decide +kernel
theorem dX8_readPage_99 : decode cX8_readPage 99 = .ok (.bipush 60, 2) := by decide +kernel
theorem dX8_readPage_101 : decode cX8_readPage 101 = .ok (.if_icmp .eq 17, 3) := by decide +kernel
theorem dX8_readPage_104 : decode cX8_readPage 104 = .ok (.iload 5, 2) := by decide +kernel
theorem dX8_readPage_106 : decode cX8_readPage 106 = .ok (.bipush 61, 2) := by decide +kernel
theorem dX8_readPage_108 : decode cX8_readPage 108 = .ok (.if_icmp .eq 10, 3) := by decide +kernel
theorem dX8_readPage_111 : decode cX8_readPage 111 = .ok (.iload 5, 2) := by decide +kernel
theorem dX8_readPage_113 : decode cX8_readPage 113 = .ok (.bipush 62, 2) := by decide +kernel
theorem dX8_readPage_115 : decode cX8_readPage 115 = .ok (.if_icmp .ne 8, 3) := by decide +kernel
theorem dX8_readPage_118 : decode cX8_readPage 118 = .ok (.iconst 2, 1) := by decide +kernel
theorem dX8_readPage_119 : decode cX8_readPage 119 = .ok (.istore_n 1, 1) := by decide +kernel
theorem dX8_readPage_120 : decode cX8_readPage 120 = .ok (.goto 80, 3) := by decide +kernel
theorem dX8_readPage_123 : decode cX8_readPage 123 = .ok (.iload_n 1, 1) := by decide +kernel
theorem dX8_readPage_124 : decode cX8_readPage 124 = .ok (.iconst 1, 1) := by decide +kernel
theorem dX8_readPage_125 : decode cX8_readPage 125 = .ok (.if_icmp .le 23, 3) := by decide +kernel
theorem dX8_readPage_128 : decode cX8_readPage 128 = .ok (.iload_n 1, 1) := by decide +kernel
theorem dX8_readPage_129 : decode cX8_readPage 129 = .ok (.bipush 6, 2) := by decide +kernel
theorem dX8_readPage_131 : decode cX8_readPage 131 = .ok (.if_icmp .ge 17, 3) := by decide +kernel
theorem dX8_readPage_134 : decode cX8_readPage 134 = .ok (.iload 5, 2) := by decide +kernel
theorem dX8_readPage_136 : decode cX8_readPage 136 = .ok (.invokestatic 236, 3) := by decide +kernel
theorem dX8_readPage_139 : decode cX8_readPage 139 = .ok (.ifCond .eq 9, 3) := by decide +kernel
theorem dX8_readPage_142 : decode cX8_readPage 142 = .ok (.iinc 1 1, 3) := by decide +kernel
theorem dX8_readPage_145 : decode cX8_readPage 145 = .ok (.goto 55, 3) := by decide +kernel
theorem dX8_readPage_148 : decode cX8_readPage 148 = .ok (.iload 6, 2) := by decide +kernel
theorem dX8_readPage_150 : decode cX8_readPage 150 = .ok (.ifCond .eq 22, 3) := by decide +kernel
theorem dX8_readPage_153 : decode cX8_readPage 153 = .ok (.iload 5, 2) := by decide +kernel
theorem dX8_readPage_155 : decode cX8_readPage 155 = .ok (.bipush 38, 2) := by decide +kernel
theorem dX8_readPage_157 : decode cX8_readPage 157 = .ok (.if_icmp .eq 10, 3) := by decide +kernel
theorem dX8_readPage_160 : decode cX8_readPage 160 = .ok (.iload 5, 2) := by decide +kernel
theorem dX8_readPage_162 : decode cX8_readPage 162 = .ok (.bipush 124, 2) := by decide +kernel
theorem dX8_readPage_164 : decode cX8_readPage 164 = .ok (.if_icmp .ne 8, 3) := by decide +kernel
theorem dX8_readPage_167 : decode cX8_readPage 167 = .ok (.iconst 0, 1) := by decide +kernel
theorem dX8_readPage_168 : decode cX8_readPage 168 = .ok (.istore_n 1, 1) := by decide +kernel
theorem dX8_readPage_169 : decode cX8_readPage 169 = .ok (.goto 31, 3) := by decide +kernel
theorem dX8_readPage_172 : decode cX8_readPage 172 = .ok (.iload 6, 2) := by decide +kernel
theorem dX8_readPage_174 : decode cX8_readPage 174 = .ok (.ifCond .eq 23, 3) := by decide +kernel
theorem dX8_readPage_177 : decode cX8_readPage 177 = .ok (.iload 5, 2) := by decide +kernel
theorem dX8_readPage_179 : decode cX8_readPage 179 = .ok (.bipush 41, 2) := by decide +kernel
theorem dX8_readPage_181 : decode cX8_readPage 181 = .ok (.if_icmp .ne 16, 3) := by decide +kernel
theorem dX8_readPage_184 : decode cX8_readPage 184 = .ok (.iload_n 2, 1) := by decide +kernel
theorem dX8_readPage_185 : decode cX8_readPage 185 = .ok (.ifCond .le 12, 3) := by decide +kernel
theorem dX8_readPage_188 : decode cX8_readPage 188 = .ok (.iinc 2 (-1), 3) := by decide +kernel
theorem dX8_readPage_191 : decode cX8_readPage 191 = .ok (.bipush 7, 2) := by decide +kernel
theorem dX8_readPage_193 : decode cX8_readPage 193 = .ok (.istore_n 1, 1) := by decide +kernel
theorem dX8_readPage_194 : decode cX8_readPage 194 = .ok (.goto 6, 3) := by decide +kernel
theorem dX8_readPage_197 : decode cX8_readPage 197 = .ok (.iconst 0, 1) := by decide +kernel
theorem dX8_readPage_198 : decode cX8_readPage 198 = .ok (.istore 4, 2) := by decide +kernel
theorem dX8_readPage_200 : decode cX8_readPage 200 = .ok (.iload_n 3, 1) := by decide +kernel
theorem dX8_readPage_201 : decode cX8_readPage 201 = .ok (.iload 4, 2) := by decide +kernel
theorem dX8_readPage_203 : decode cX8_readPage 203 = .ok (.ifCond .eq 7, 3) := by decide +kernel
theorem dX8_readPage_206 : decode cX8_readPage 206 = .ok (.iconst 1, 1) := by decide +kernel
theorem dX8_readPage_207 : decode cX8_readPage 207 = .ok (.goto 4, 3) := by decide +kernel
theorem dX8_readPage_210 : decode cX8_readPage 210 = .ok (.iconst 0, 1) := by decide +kernel
theorem dX8_readPage_211 : decode cX8_readPage 211 = .ok (.iadd, 1) := by decide +kernel
theorem dX8_readPage_212 : decode cX8_readPage 212 = .ok (.istore_n 3, 1) := by decide +kernel
theorem dX8_readPage_213 : decode cX8_readPage 213 = .ok (.goto (-204), 3) := by decide +kernel
theorem dX8_readPage_216 : decode cX8_readPage 216 = .ok (.aload_n 0, 1) := by decide +kernel
theorem dX8_readPage_217 : decode cX8_readPage 217 = .ok (.iload_n 3, 1) := by decide +kernel
theorem dX8_readPage_218 : decode cX8_readPage 218 = .ok (.putfield 239, 3) := by decide +kernel
theorem dX8_readPage_221 : decode cX8_readPage 221 = .ok (.aload_n 0, 1) := by decide +kernel
theorem dX8_readPage_222 : decode cX8_readPage 222 = .ok (.iload_n 3, 1) := by decide +kernel
theorem dX8_readPage_223 : decode cX8_readPage 223 = .ok (.aload_n 0, 1) := by decide +kernel
theorem dX8_readPage_224 : decode cX8_readPage 224 = .ok (.getfield 230, 3) := by decide +kernel
theorem dX8_readPage_227 : decode cX8_readPage 227 = .ok (.if_icmp .ne 16, 3) := by decide +kernel
theorem dX8_readPage_230 : decode cX8_readPage 230 = .ok (.iload_n 1, 1) := by decide +kernel
theorem dX8_readPage_231 : decode cX8_readPage 231 = .ok (.iconst 2, 1) := by decide +kernel
theorem dX8_readPage_232 : decode cX8_readPage 232 = .ok (.if_icmp .le 11, 3) := by decide +kernel
theorem dX8_readPage_235 : decode cX8_readPage 235 = .ok (.iload_n 2, 1) := by decide +kernel
theorem dX8_readPage_236 : decode cX8_readPage 236 = .ok (.ifCond .ne 7, 3) := by decide +kernel
theorem dX8_readPage_239 : decode cX8_readPage 239 = .ok (.iconst 1, 1) := by decide +kernel
theorem dX8_readPage_240 : decode cX8_readPage 240 = .ok (.goto 4, 3) := by decide +kernel
theorem dX8_readPage_243 : decode cX8_readPage 243 = .ok (.iconst 0, 1) := by decide +kernel
theorem dX8_readPage_244 : decode cX8_readPage 244 = .ok (.putfield 242, 3) := by decide +kernel
theorem dX8_readPage_247 : decode cX8_readPage 247 = .ok (.return_, 1) := by decide +kernel
theorem dX8_fault_0 : decode cX8_fault 0 = .ok (.aload_n 0, 1) := by decide +kernel
theorem dX8_fault_1 : decode cX8_fault 1 = .ok (.invokevirtual 245, 3) := by decide +kernel
theorem dX8_fault_4 : decode cX8_fault 4 = .ok (.aload_n 0, 1) := by decide +kernel
theorem dX8_fault_5 : decode cX8_fault 5 = .ok (.getfield 239, 3) := by decide +kernel
theorem dX8_fault_8 : decode cX8_fault 8 = .ok (.ireturn, 1) := by decide +kernel
theorem dX8_test_0 : decode cX8_test 0 = .ok (.aload_n 0, 1) := by decide +kernel
theorem dX8_test_1 : decode cX8_test 1 = .ok (.invokevirtual 245, 3) := by decide +kernel
theorem dX8_test_4 : decode cX8_test 4 = .ok (.aload_n 0, 1) := by decide +kernel
theorem dX8_test_5 : decode cX8_test 5 = .ok (.getfield 242, 3) := by decide +kernel
theorem dX8_test_8 : decode cX8_test 8 = .ok (.ifCond .ne 6, 3) := by decide +kernel
theorem dX8_test_11 : decode cX8_test 11 = .ok (.bipush (-103), 2) := by decide +kernel
theorem dX8_test_13 : decode cX8_test 13 = .ok (.ireturn, 1) := by decide +kernel
theorem dX8_test_14 : decode cX8_test 14 = .ok (.aload_n 0, 1) := by decide +kernel
theorem dX8_test_15 : decode cX8_test 15 = .ok (.getfield 248, 3) := by decide +kernel
theorem dX8_test_18 : decode cX8_test 18 = .ok (.iconst 4, 1) := by decide +kernel
theorem dX8_test_19 : decode cX8_test 19 = .ok (.if_icmp .ne 6, 3) := by decide +kernel
theorem dX8_test_22 : decode cX8_test 22 = .ok (.bipush (-104), 2) := by decide +kernel
theorem dX8_test_24 : decode cX8_test 24 = .ok (.ireturn, 1) := by decide +kernel
theorem dX8_test_25 : decode cX8_test 25 = .ok (.iconst 0, 1) := by decide +kernel
theorem dX8_test_26 : decode cX8_test 26 = .ok (.istore_n 1, 1) := by decide +kernel
theorem dX8_test_27 : decode cX8_test 27 = .ok (.iload_n 1, 1) := by decide +kernel
theorem dX8_test_28 : decode cX8_test 28 = .ok (.aload_n 0, 1) := by decide +kernel
theorem dX8_test_29 : decode cX8_test 29 = .ok (.getfield 230, 3) := by decide +kernel
theorem dX8_test_32 : decode cX8_test 32 = .ok (.if_icmp .ge 29, 3) := by decide +kernel
theorem dX8_test_35 : decode cX8_test 35 = .ok (.aload_n 0, 1) := by decide +kernel
theorem dX8_test_36 : decode cX8_test 36 = .ok (.getfield 35, 3) := by decide +kernel
theorem dX8_test_39 : decode cX8_test 39 = .ok (.bipush 50, 2) := by decide +kernel
theorem dX8_test_41 : decode cX8_test 41 = .ok (.aload_n 0, 1) := by decide +kernel
theorem dX8_test_42 : decode cX8_test 42 = .ok (.getfield 248, 3) := by decide +kernel
theorem dX8_test_45 : decode cX8_test 45 = .ok (.imul, 1) := by decide +kernel
theorem dX8_test_46 : decode cX8_test 46 = .ok (.iload_n 1, 1) := by decide +kernel
theorem dX8_test_47 : decode cX8_test 47 = .ok (.iadd, 1) := by decide +kernel
theorem dX8_test_48 : decode cX8_test 48 = .ok (.aload_n 0, 1) := by decide +kernel
theorem dX8_test_49 : decode cX8_test 49 = .ok (.getfield 42, 3) := by decide +kernel
theorem dX8_test_52 : decode cX8_test 52 = .ok (.iload_n 1, 1) := by decide +kernel
theorem dX8_test_53 : decode cX8_test 53 = .ok (.baload, 1) := by decide +kernel
theorem dX8_test_54 : decode cX8_test 54 = .ok (.bastore, 1) := by decide +kernel
theorem dX8_test_55 : decode cX8_test 55 = .ok (.iinc 1 1, 3) := by decide +kernel
theorem dX8_test_58 : decode cX8_test 58 = .ok (.goto (-31), 3) := by decide +kernel
theorem dX8_test_61 : decode cX8_test 61 = .ok (.aload_n 0, 1) := by decide +kernel
theorem dX8_test_62 : decode cX8_test 62 = .ok (.getfield 39, 3) := by decide +kernel
theorem dX8_test_65 : decode cX8_test 65 = .ok (.aload_n 0, 1) := by decide +kernel
theorem dX8_test_66 : decode cX8_test 66 = .ok (.getfield 248, 3) := by decide +kernel
theorem dX8_test_69 : decode cX8_test 69 = .ok (.aload_n 0, 1) := by decide +kernel
theorem dX8_test_70 : decode cX8_test 70 = .ok (.getfield 230, 3) := by decide +kernel
theorem dX8_test_73 : decode cX8_test 73 = .ok (.iastore, 1) := by decide +kernel
theorem dX8_test_74 : decode cX8_test 74 = .ok (.aload_n 0, 1) := by decide +kernel
theorem dX8_test_75 : decode cX8_test 75 = .ok (.dup, 1) := by decide +kernel
theorem dX8_test_76 : decode cX8_test 76 = .ok (.getfield 248, 3) := by decide +kernel
theorem dX8_test_79 : decode cX8_test 79 = .ok (.iconst 1, 1) := by decide +kernel
theorem dX8_test_80 : decode cX8_test 80 = .ok (.iadd, 1) := by decide +kernel
theorem dX8_test_81 : decode cX8_test 81 = .ok (.putfield 248, 3) := by decide +kernel
theorem dX8_test_84 : decode cX8_test 84 = .ok (.aload_n 0, 1) := by decide +kernel
theorem dX8_test_85 : decode cX8_test 85 = .ok (.iconst 0, 1) := by decide +kernel
theorem dX8_test_86 : decode cX8_test 86 = .ok (.putfield 230, 3) := by decide +kernel
theorem dX8_test_89 : decode cX8_test 89 = .ok (.aload_n 0, 1) := by decide +kernel
theorem dX8_test_90 : decode cX8_test 90 = .ok (.getfield 248, 3) := by decide +kernel
theorem dX8_test_93 : decode cX8_test 93 = .ok (.iconst 1, 1) := by decide +kernel
theorem dX8_test_94 : decode cX8_test 94 = .ok (.isub, 1) := by decide +kernel
theorem dX8_test_95 : decode cX8_test 95 = .ok (.ireturn, 1) := by decide +kernel
theorem dX8_isTest_0 : decode cX8_isTest 0 = .ok (.iload_n 1, 1) := by decide +kernel
theorem dX8_isTest_1 : decode cX8_isTest 1 = .ok (.iconst 0, 1) := by decide +kernel
theorem dX8_isTest_2 : decode cX8_isTest 2 = .ok (.aload_n 0, 1) := by decide +kernel
theorem dX8_isTest_3 : decode cX8_isTest 3 = .ok (.getfield 248, 3) := by decide +kernel
theorem dX8_isTest_6 : decode cX8_isTest 6 = .ok (.iconst 1, 1) := by decide +kernel
theorem dX8_isTest_7 : decode cX8_isTest 7 = .ok (.isub, 1) := by decide +kernel
theorem dX8_isTest_8 : decode cX8_isTest 8 = .ok (.invokestatic 94, 3) := by decide +kernel
theorem dX8_isTest_11 : decode cX8_isTest 11 = .ok (.ireturn, 1) := by decide +kernel
theorem dX8_soldBy_0 : decode cX8_soldBy 0 = .ok (.iconst 0, 1) := by decide +kernel
theorem dX8_soldBy_1 : decode cX8_soldBy 1 = .ok (.istore_n 2, 1) := by decide +kernel
theorem dX8_soldBy_2 : decode cX8_soldBy 2 = .ok (.iconst 0, 1) := by decide +kernel
theorem dX8_soldBy_3 : decode cX8_soldBy 3 = .ok (.istore_n 3, 1) := by decide +kernel
theorem dX8_soldBy_4 : decode cX8_soldBy 4 = .ok (.iload_n 3, 1) := by decide +kernel
theorem dX8_soldBy_5 : decode cX8_soldBy 5 = .ok (.aload_n 0, 1) := by decide +kernel
theorem dX8_soldBy_6 : decode cX8_soldBy 6 = .ok (.getfield 98, 3) := by decide +kernel
theorem dX8_soldBy_9 : decode cX8_soldBy 9 = .ok (.if_icmp .ge 32, 3) := by decide +kernel
theorem dX8_soldBy_12 : decode cX8_soldBy 12 = .ok (.iload_n 2, 1) := by decide +kernel
theorem dX8_soldBy_13 : decode cX8_soldBy 13 = .ok (.aload_n 0, 1) := by decide +kernel
theorem dX8_soldBy_14 : decode cX8_soldBy 14 = .ok (.getfield 20, 3) := by decide +kernel
theorem dX8_soldBy_17 : decode cX8_soldBy 17 = .ok (.iload_n 3, 1) := by decide +kernel
theorem dX8_soldBy_18 : decode cX8_soldBy 18 = .ok (.iaload, 1) := by decide +kernel
theorem dX8_soldBy_19 : decode cX8_soldBy 19 = .ok (.iload_n 1, 1) := by decide +kernel
theorem dX8_soldBy_20 : decode cX8_soldBy 20 = .ok (.if_icmp .ne 12, 3) := by decide +kernel
theorem dX8_soldBy_23 : decode cX8_soldBy 23 = .ok (.aload_n 0, 1) := by decide +kernel
theorem dX8_soldBy_24 : decode cX8_soldBy 24 = .ok (.getfield 58, 3) := by decide +kernel
theorem dX8_soldBy_27 : decode cX8_soldBy 27 = .ok (.iload_n 3, 1) := by decide +kernel
theorem dX8_soldBy_28 : decode cX8_soldBy 28 = .ok (.iaload, 1) := by decide +kernel
theorem dX8_soldBy_29 : decode cX8_soldBy 29 = .ok (.goto 4, 3) := by decide +kernel
theorem dX8_soldBy_32 : decode cX8_soldBy 32 = .ok (.iconst 0, 1) := by decide +kernel
theorem dX8_soldBy_33 : decode cX8_soldBy 33 = .ok (.iadd, 1) := by decide +kernel
theorem dX8_soldBy_34 : decode cX8_soldBy 34 = .ok (.istore_n 2, 1) := by decide +kernel
theorem dX8_soldBy_35 : decode cX8_soldBy 35 = .ok (.iinc 3 1, 3) := by decide +kernel
theorem dX8_soldBy_38 : decode cX8_soldBy 38 = .ok (.goto (-34), 3) := by decide +kernel
theorem dX8_soldBy_41 : decode cX8_soldBy 41 = .ok (.iload_n 2, 1) := by decide +kernel
theorem dX8_soldBy_42 : decode cX8_soldBy 42 = .ok (.ireturn, 1) := by decide +kernel
theorem dX8_valueOf_0 : decode cX8_valueOf 0 = .ok (.aload_n 0, 1) := by decide +kernel
theorem dX8_valueOf_1 : decode cX8_valueOf 1 = .ok (.invokevirtual 128, 3) := by decide +kernel
theorem dX8_valueOf_4 : decode cX8_valueOf 4 = .ok (.istore 4, 2) := by decide +kernel
theorem dX8_valueOf_6 : decode cX8_valueOf 6 = .ok (.aload_n 0, 1) := by decide +kernel
theorem dX8_valueOf_7 : decode cX8_valueOf 7 = .ok (.iload_n 2, 1) := by decide +kernel
theorem dX8_valueOf_8 : decode cX8_valueOf 8 = .ok (.invokevirtual 251, 3) := by decide +kernel
theorem dX8_valueOf_11 : decode cX8_valueOf 11 = .ok (.istore 5, 2) := by decide +kernel
theorem dX8_valueOf_13 : decode cX8_valueOf 13 = .ok (.aload_n 0, 1) := by decide +kernel
theorem dX8_valueOf_14 : decode cX8_valueOf 14 = .ok (.iload_n 3, 1) := by decide +kernel
theorem dX8_valueOf_15 : decode cX8_valueOf 15 = .ok (.invokevirtual 251, 3) := by decide +kernel
theorem dX8_valueOf_18 : decode cX8_valueOf 18 = .ok (.istore 6, 2) := by decide +kernel
theorem dX8_valueOf_20 : decode cX8_valueOf 20 = .ok (.iload_n 1, 1) := by decide +kernel
theorem dX8_valueOf_21 : decode cX8_valueOf 21 = .ok (.bipush 115, 2) := by decide +kernel
theorem dX8_valueOf_23 : decode cX8_valueOf 23 = .ok (.if_icmp .ne 24, 3) := by decide +kernel
theorem dX8_valueOf_26 : decode cX8_valueOf 26 = .ok (.iload 4, 2) := by decide +kernel
theorem dX8_valueOf_28 : decode cX8_valueOf 28 = .ok (.ifCond .ne 7, 3) := by decide +kernel
theorem dX8_valueOf_31 : decode cX8_valueOf 31 = .ok (.iconst 0, 1) := by decide +kernel
theorem dX8_valueOf_32 : decode cX8_valueOf 32 = .ok (.goto 14, 3) := by decide +kernel
theorem dX8_valueOf_35 : decode cX8_valueOf 35 = .ok (.bipush 100, 2) := by decide +kernel
theorem dX8_valueOf_37 : decode cX8_valueOf 37 = .ok (.iload 5, 2) := by decide +kernel
theorem dX8_valueOf_39 : decode cX8_valueOf 39 = .ok (.iload 6, 2) := by decide +kernel
theorem dX8_valueOf_41 : decode cX8_valueOf 41 = .ok (.iadd, 1) := by decide +kernel
theorem dX8_valueOf_42 : decode cX8_valueOf 42 = .ok (.imul, 1) := by decide +kernel
theorem dX8_valueOf_43 : decode cX8_valueOf 43 = .ok (.iload 4, 2) := by decide +kernel
theorem dX8_valueOf_45 : decode cX8_valueOf 45 = .ok (.idiv, 1) := by decide +kernel
theorem dX8_valueOf_46 : decode cX8_valueOf 46 = .ok (.ireturn, 1) := by decide +kernel
theorem dX8_valueOf_47 : decode cX8_valueOf 47 = .ok (.iload_n 1, 1) := by decide +kernel
theorem dX8_valueOf_48 : decode cX8_valueOf 48 = .ok (.bipush 114, 2) := by decide +kernel
theorem dX8_valueOf_50 : decode cX8_valueOf 50 = .ok (.if_icmp .ne 32, 3) := by decide +kernel
theorem dX8_valueOf_53 : decode cX8_valueOf 53 = .ok (.iload 4, 2) := by decide +kernel
theorem dX8_valueOf_55 : decode cX8_valueOf 55 = .ok (.ifCond .ne 7, 3) := by decide +kernel
theorem dX8_valueOf_58 : decode cX8_valueOf 58 = .ok (.iconst 0, 1) := by decide +kernel
theorem dX8_valueOf_59 : decode cX8_valueOf 59 = .ok (.goto 22, 3) := by decide +kernel
theorem dX8_valueOf_62 : decode cX8_valueOf 62 = .ok (.iconst 2, 1) := by decide +kernel
theorem dX8_valueOf_63 : decode cX8_valueOf 63 = .ok (.bipush 100, 2) := by decide +kernel
theorem dX8_valueOf_65 : decode cX8_valueOf 65 = .ok (.iload 5, 2) := by decide +kernel
theorem dX8_valueOf_67 : decode cX8_valueOf 67 = .ok (.imul, 1) := by decide +kernel
theorem dX8_valueOf_68 : decode cX8_valueOf 68 = .ok (.iload 4, 2) := by decide +kernel
theorem dX8_valueOf_70 : decode cX8_valueOf 70 = .ok (.idiv, 1) := by decide +kernel
theorem dX8_valueOf_71 : decode cX8_valueOf 71 = .ok (.imul, 1) := by decide +kernel
theorem dX8_valueOf_72 : decode cX8_valueOf 72 = .ok (.bipush 100, 2) := by decide +kernel
theorem dX8_valueOf_74 : decode cX8_valueOf 74 = .ok (.iload 6, 2) := by decide +kernel
theorem dX8_valueOf_76 : decode cX8_valueOf 76 = .ok (.imul, 1) := by decide +kernel
theorem dX8_valueOf_77 : decode cX8_valueOf 77 = .ok (.iload 4, 2) := by decide +kernel
theorem dX8_valueOf_79 : decode cX8_valueOf 79 = .ok (.idiv, 1) := by decide +kernel
theorem dX8_valueOf_80 : decode cX8_valueOf 80 = .ok (.imul, 1) := by decide +kernel
theorem dX8_valueOf_81 : decode cX8_valueOf 81 = .ok (.ireturn, 1) := by decide +kernel
theorem dX8_valueOf_82 : decode cX8_valueOf 82 = .ok (.iload_n 1, 1) := by decide +kernel
theorem dX8_valueOf_83 : decode cX8_valueOf 83 = .ok (.bipush 111, 2) := by decide +kernel
theorem dX8_valueOf_85 : decode cX8_valueOf 85 = .ok (.if_icmp .ne 70, 3) := by decide +kernel
theorem dX8_valueOf_88 : decode cX8_valueOf 88 = .ok (.iload 5, 2) := by decide +kernel
theorem dX8_valueOf_90 : decode cX8_valueOf 90 = .ok (.iload 6, 2) := by decide +kernel
theorem dX8_valueOf_92 : decode cX8_valueOf 92 = .ok (.iadd, 1) := by decide +kernel
theorem dX8_valueOf_93 : decode cX8_valueOf 93 = .ok (.ifCond .le 7, 3) := by decide +kernel
theorem dX8_valueOf_96 : decode cX8_valueOf 96 = .ok (.iconst 1, 1) := by decide +kernel
theorem dX8_valueOf_97 : decode cX8_valueOf 97 = .ok (.goto 4, 3) := by decide +kernel
theorem dX8_valueOf_100 : decode cX8_valueOf 100 = .ok (.iconst 0, 1) := by decide +kernel
theorem dX8_valueOf_101 : decode cX8_valueOf 101 = .ok (.istore 7, 2) := by decide +kernel
theorem dX8_valueOf_103 : decode cX8_valueOf 103 = .ok (.iconst 0, 1) := by decide +kernel
theorem dX8_valueOf_104 : decode cX8_valueOf 104 = .ok (.istore 8, 2) := by decide +kernel
theorem dX8_valueOf_106 : decode cX8_valueOf 106 = .ok (.iload 8, 2) := by decide +kernel
theorem dX8_valueOf_108 : decode cX8_valueOf 108 = .ok (.aload_n 0, 1) := by decide +kernel
theorem dX8_valueOf_109 : decode cX8_valueOf 109 = .ok (.getfield 91, 3) := by decide +kernel
theorem dX8_valueOf_112 : decode cX8_valueOf 112 = .ok (.if_icmp .ge 40, 3) := by decide +kernel
theorem dX8_valueOf_115 : decode cX8_valueOf 115 = .ok (.iload 7, 2) := by decide +kernel
theorem dX8_valueOf_117 : decode cX8_valueOf 117 = .ok (.iload 8, 2) := by decide +kernel
theorem dX8_valueOf_119 : decode cX8_valueOf 119 = .ok (.iload_n 2, 1) := by decide +kernel
theorem dX8_valueOf_120 : decode cX8_valueOf 120 = .ok (.if_icmp .eq 22, 3) := by decide +kernel
theorem dX8_valueOf_123 : decode cX8_valueOf 123 = .ok (.iload 8, 2) := by decide +kernel
theorem dX8_valueOf_125 : decode cX8_valueOf 125 = .ok (.iload_n 3, 1) := by decide +kernel
theorem dX8_valueOf_126 : decode cX8_valueOf 126 = .ok (.if_icmp .eq 16, 3) := by decide +kernel
theorem dX8_valueOf_129 : decode cX8_valueOf 129 = .ok (.aload_n 0, 1) := by decide +kernel
theorem dX8_valueOf_130 : decode cX8_valueOf 130 = .ok (.iload 8, 2) := by decide +kernel
theorem dX8_valueOf_132 : decode cX8_valueOf 132 = .ok (.invokevirtual 251, 3) := by decide +kernel
theorem dX8_valueOf_135 : decode cX8_valueOf 135 = .ok (.ifCond .le 7, 3) := by decide +kernel
theorem dX8_valueOf_138 : decode cX8_valueOf 138 = .ok (.iconst 1, 1) := by decide +kernel
theorem dX8_valueOf_139 : decode cX8_valueOf 139 = .ok (.goto 4, 3) := by decide +kernel
theorem dX8_valueOf_142 : decode cX8_valueOf 142 = .ok (.iconst 0, 1) := by decide +kernel
theorem dX8_valueOf_143 : decode cX8_valueOf 143 = .ok (.iadd, 1) := by decide +kernel
theorem dX8_valueOf_144 : decode cX8_valueOf 144 = .ok (.istore 7, 2) := by decide +kernel
theorem dX8_valueOf_146 : decode cX8_valueOf 146 = .ok (.iinc 8 1, 3) := by decide +kernel
theorem dX8_valueOf_149 : decode cX8_valueOf 149 = .ok (.goto (-43), 3) := by decide +kernel
theorem dX8_valueOf_152 : decode cX8_valueOf 152 = .ok (.iload 7, 2) := by decide +kernel
theorem dX8_valueOf_154 : decode cX8_valueOf 154 = .ok (.ireturn, 1) := by decide +kernel
theorem dX8_valueOf_155 : decode cX8_valueOf 155 = .ok (.bipush 99, 2) := by decide +kernel
theorem dX8_valueOf_157 : decode cX8_valueOf 157 = .ok (.istore 7, 2) := by decide +kernel
theorem dX8_valueOf_159 : decode cX8_valueOf 159 = .ok (.iconst 0, 1) := by decide +kernel
theorem dX8_valueOf_160 : decode cX8_valueOf 160 = .ok (.istore 8, 2) := by decide +kernel
theorem dX8_valueOf_162 : decode cX8_valueOf 162 = .ok (.iload 8, 2) := by decide +kernel
theorem dX8_valueOf_164 : decode cX8_valueOf 164 = .ok (.aload_n 0, 1) := by decide +kernel
theorem dX8_valueOf_165 : decode cX8_valueOf 165 = .ok (.getfield 98, 3) := by decide +kernel
theorem dX8_valueOf_168 : decode cX8_valueOf 168 = .ok (.if_icmp .ge 115, 3) := by decide +kernel
theorem dX8_valueOf_171 : decode cX8_valueOf 171 = .ok (.iconst 0, 1) := by decide +kernel
theorem dX8_valueOf_172 : decode cX8_valueOf 172 = .ok (.istore 9, 2) := by decide +kernel
theorem dX8_valueOf_174 : decode cX8_valueOf 174 = .ok (.iload 9, 2) := by decide +kernel
theorem dX8_valueOf_176 : decode cX8_valueOf 176 = .ok (.aload_n 0, 1) := by decide +kernel
theorem dX8_valueOf_177 : decode cX8_valueOf 177 = .ok (.getfield 98, 3) := by decide +kernel
theorem dX8_valueOf_180 : decode cX8_valueOf 180 = .ok (.if_icmp .ge 97, 3) := by decide +kernel
theorem dX8_valueOf_183 : decode cX8_valueOf 183 = .ok (.aload_n 0, 1) := by decide +kernel
theorem dX8_valueOf_184 : decode cX8_valueOf 184 = .ok (.getfield 20, 3) := by decide +kernel
theorem dX8_valueOf_187 : decode cX8_valueOf 187 = .ok (.iload 8, 2) := by decide +kernel
theorem dX8_valueOf_189 : decode cX8_valueOf 189 = .ok (.iaload, 1) := by decide +kernel
theorem dX8_valueOf_190 : decode cX8_valueOf 190 = .ok (.iload_n 2, 1) := by decide +kernel
theorem dX8_valueOf_191 : decode cX8_valueOf 191 = .ok (.if_icmp .ne 36, 3) := by decide +kernel
theorem dX8_valueOf_194 : decode cX8_valueOf 194 = .ok (.aload_n 0, 1) := by decide +kernel
theorem dX8_valueOf_195 : decode cX8_valueOf 195 = .ok (.getfield 20, 3) := by decide +kernel
theorem dX8_valueOf_198 : decode cX8_valueOf 198 = .ok (.iload 9, 2) := by decide +kernel
theorem dX8_valueOf_200 : decode cX8_valueOf 200 = .ok (.iaload, 1) := by decide +kernel
theorem dX8_valueOf_201 : decode cX8_valueOf 201 = .ok (.iload_n 3, 1) := by decide +kernel
theorem dX8_valueOf_202 : decode cX8_valueOf 202 = .ok (.if_icmp .ne 25, 3) := by decide +kernel
theorem dX8_valueOf_205 : decode cX8_valueOf 205 = .ok (.aload_n 0, 1) := by decide +kernel
theorem dX8_valueOf_206 : decode cX8_valueOf 206 = .ok (.iload 8, 2) := by decide +kernel
theorem dX8_valueOf_208 : decode cX8_valueOf 208 = .ok (.invokevirtual 119, 3) := by decide +kernel
theorem dX8_valueOf_211 : decode cX8_valueOf 211 = .ok (.ifCond .eq 16, 3) := by decide +kernel
theorem dX8_valueOf_214 : decode cX8_valueOf 214 = .ok (.aload_n 0, 1) := by decide +kernel
theorem dX8_valueOf_215 : decode cX8_valueOf 215 = .ok (.iload 9, 2) := by decide +kernel
theorem dX8_valueOf_217 : decode cX8_valueOf 217 = .ok (.invokevirtual 119, 3) := by decide +kernel
theorem dX8_valueOf_220 : decode cX8_valueOf 220 = .ok (.ifCond .eq 7, 3) := by decide +kernel
theorem dX8_valueOf_223 : decode cX8_valueOf 223 = .ok (.iconst 1, 1) := by decide +kernel
theorem dX8_valueOf_224 : decode cX8_valueOf 224 = .ok (.goto 4, 3) := by decide +kernel
theorem dX8_valueOf_227 : decode cX8_valueOf 227 = .ok (.iconst 0, 1) := by decide +kernel
theorem dX8_valueOf_228 : decode cX8_valueOf 228 = .ok (.istore 10, 2) := by decide +kernel
theorem dX8_valueOf_230 : decode cX8_valueOf 230 = .ok (.aload_n 0, 1) := by decide +kernel
theorem dX8_valueOf_231 : decode cX8_valueOf 231 = .ok (.getfield 23, 3) := by decide +kernel
theorem dX8_valueOf_234 : decode cX8_valueOf 234 = .ok (.iload 8, 2) := by decide +kernel
theorem dX8_valueOf_236 : decode cX8_valueOf 236 = .ok (.iaload, 1) := by decide +kernel
theorem dX8_valueOf_237 : decode cX8_valueOf 237 = .ok (.aload_n 0, 1) := by decide +kernel
theorem dX8_valueOf_238 : decode cX8_valueOf 238 = .ok (.getfield 23, 3) := by decide +kernel
theorem dX8_valueOf_241 : decode cX8_valueOf 241 = .ok (.iload 9, 2) := by decide +kernel
theorem dX8_valueOf_243 : decode cX8_valueOf 243 = .ok (.iaload, 1) := by decide +kernel
theorem dX8_valueOf_244 : decode cX8_valueOf 244 = .ok (.isub, 1) := by decide +kernel
theorem dX8_valueOf_245 : decode cX8_valueOf 245 = .ok (.invokestatic 116, 3) := by decide +kernel
theorem dX8_valueOf_248 : decode cX8_valueOf 248 = .ok (.istore 11, 2) := by decide +kernel
theorem dX8_valueOf_250 : decode cX8_valueOf 250 = .ok (.iload 10, 2) := by decide +kernel
theorem dX8_valueOf_252 : decode cX8_valueOf 252 = .ok (.ifCond .eq 15, 3) := by decide +kernel
theorem dX8_valueOf_255 : decode cX8_valueOf 255 = .ok (.iload 11, 2) := by decide +kernel
theorem dX8_valueOf_257 : decode cX8_valueOf 257 = .ok (.iload 7, 2) := by decide +kernel
theorem dX8_valueOf_259 : decode cX8_valueOf 259 = .ok (.if_icmp .ge 8, 3) := by decide +kernel
theorem dX8_valueOf_262 : decode cX8_valueOf 262 = .ok (.iload 11, 2) := by decide +kernel
theorem dX8_valueOf_264 : decode cX8_valueOf 264 = .ok (.goto 5, 3) := by decide +kernel
theorem dX8_valueOf_267 : decode cX8_valueOf 267 = .ok (.iload 7, 2) := by decide +kernel
theorem dX8_valueOf_269 : decode cX8_valueOf 269 = .ok (.istore 7, 2) := by decide +kernel
theorem dX8_valueOf_271 : decode cX8_valueOf 271 = .ok (.iinc 9 1, 3) := by decide +kernel
theorem dX8_valueOf_274 : decode cX8_valueOf 274 = .ok (.goto (-100), 3) := by decide +kernel
theorem dX8_valueOf_277 : decode cX8_valueOf 277 = .ok (.iinc 8 1, 3) := by decide +kernel
theorem dX8_valueOf_280 : decode cX8_valueOf 280 = .ok (.goto (-118), 3) := by decide +kernel
theorem dX8_valueOf_283 : decode cX8_valueOf 283 = .ok (.iload 7, 2) := by decide +kernel
theorem dX8_valueOf_285 : decode cX8_valueOf 285 = .ok (.ireturn, 1) := by decide +kernel
theorem dX8_openGroup_0 : decode cX8_openGroup 0 = .ok (.aload_n 0, 1) := by decide +kernel
theorem dX8_openGroup_1 : decode cX8_openGroup 1 = .ok (.dup, 1) := by decide +kernel
theorem dX8_openGroup_2 : decode cX8_openGroup 2 = .ok (.getfield 254, 3) := by decide +kernel
theorem dX8_openGroup_5 : decode cX8_openGroup 5 = .ok (.iconst 1, 1) := by decide +kernel
theorem dX8_openGroup_6 : decode cX8_openGroup 6 = .ok (.iadd, 1) := by decide +kernel
theorem dX8_openGroup_7 : decode cX8_openGroup 7 = .ok (.putfield 254, 3) := by decide +kernel
theorem dX8_openGroup_10 : decode cX8_openGroup 10 = .ok (.aload_n 0, 1) := by decide +kernel
theorem dX8_openGroup_11 : decode cX8_openGroup 11 = .ok (.getfield 82, 3) := by decide +kernel
theorem dX8_openGroup_14 : decode cX8_openGroup 14 = .ok (.aload_n 0, 1) := by decide +kernel
theorem dX8_openGroup_15 : decode cX8_openGroup 15 = .ok (.getfield 254, 3) := by decide +kernel
theorem dX8_openGroup_18 : decode cX8_openGroup 18 = .ok (.iconst 0, 1) := by decide +kernel
theorem dX8_openGroup_19 : decode cX8_openGroup 19 = .ok (.bastore, 1) := by decide +kernel
theorem dX8_openGroup_20 : decode cX8_openGroup 20 = .ok (.aload_n 0, 1) := by decide +kernel
theorem dX8_openGroup_21 : decode cX8_openGroup 21 = .ok (.getfield 85, 3) := by decide +kernel
theorem dX8_openGroup_24 : decode cX8_openGroup 24 = .ok (.aload_n 0, 1) := by decide +kernel
theorem dX8_openGroup_25 : decode cX8_openGroup 25 = .ok (.getfield 254, 3) := by decide +kernel
theorem dX8_openGroup_28 : decode cX8_openGroup 28 = .ok (.iconst 1, 1) := by decide +kernel
theorem dX8_openGroup_29 : decode cX8_openGroup 29 = .ok (.bastore, 1) := by decide +kernel
theorem dX8_openGroup_30 : decode cX8_openGroup 30 = .ok (.aload_n 0, 1) := by decide +kernel
theorem dX8_openGroup_31 : decode cX8_openGroup 31 = .ok (.getfield 88, 3) := by decide +kernel
theorem dX8_openGroup_34 : decode cX8_openGroup 34 = .ok (.aload_n 0, 1) := by decide +kernel
theorem dX8_openGroup_35 : decode cX8_openGroup 35 = .ok (.getfield 254, 3) := by decide +kernel
theorem dX8_openGroup_38 : decode cX8_openGroup 38 = .ok (.iconst 0, 1) := by decide +kernel
theorem dX8_openGroup_39 : decode cX8_openGroup 39 = .ok (.bastore, 1) := by decide +kernel
theorem dX8_openGroup_40 : decode cX8_openGroup 40 = .ok (.return_, 1) := by decide +kernel
theorem dX8_factor_0 : decode cX8_factor 0 = .ok (.aload_n 0, 1) := by decide +kernel
theorem dX8_factor_1 : decode cX8_factor 1 = .ok (.getfield 85, 3) := by decide +kernel
theorem dX8_factor_4 : decode cX8_factor 4 = .ok (.aload_n 0, 1) := by decide +kernel
theorem dX8_factor_5 : decode cX8_factor 5 = .ok (.getfield 254, 3) := by decide +kernel
theorem dX8_factor_8 : decode cX8_factor 8 = .ok (.aload_n 0, 1) := by decide +kernel
theorem dX8_factor_9 : decode cX8_factor 9 = .ok (.getfield 85, 3) := by decide +kernel
theorem dX8_factor_12 : decode cX8_factor 12 = .ok (.aload_n 0, 1) := by decide +kernel
theorem dX8_factor_13 : decode cX8_factor 13 = .ok (.getfield 254, 3) := by decide +kernel
theorem dX8_factor_16 : decode cX8_factor 16 = .ok (.baload, 1) := by decide +kernel
theorem dX8_factor_17 : decode cX8_factor 17 = .ok (.ifCond .eq 20, 3) := by decide +kernel
theorem dX8_factor_20 : decode cX8_factor 20 = .ok (.iload_n 1, 1) := by decide +kernel
theorem dX8_factor_21 : decode cX8_factor 21 = .ok (.aload_n 0, 1) := by decide +kernel
theorem dX8_factor_22 : decode cX8_factor 22 = .ok (.getfield 88, 3) := by decide +kernel
theorem dX8_factor_25 : decode cX8_factor 25 = .ok (.aload_n 0, 1) := by decide +kernel
theorem dX8_factor_26 : decode cX8_factor 26 = .ok (.getfield 254, 3) := by decide +kernel
theorem dX8_factor_29 : decode cX8_factor 29 = .ok (.baload, 1) := by decide +kernel
theorem dX8_factor_30 : decode cX8_factor 30 = .ok (.if_icmp .eq 7, 3) := by decide +kernel
theorem dX8_factor_33 : decode cX8_factor 33 = .ok (.iconst 1, 1) := by decide +kernel
theorem dX8_factor_34 : decode cX8_factor 34 = .ok (.goto 4, 3) := by decide +kernel
theorem dX8_factor_37 : decode cX8_factor 37 = .ok (.iconst 0, 1) := by decide +kernel
theorem dX8_factor_38 : decode cX8_factor 38 = .ok (.bastore, 1) := by decide +kernel
theorem dX8_factor_39 : decode cX8_factor 39 = .ok (.aload_n 0, 1) := by decide +kernel
theorem dX8_factor_40 : decode cX8_factor 40 = .ok (.getfield 88, 3) := by decide +kernel
theorem dX8_factor_43 : decode cX8_factor 43 = .ok (.aload_n 0, 1) := by decide +kernel
theorem dX8_factor_44 : decode cX8_factor 44 = .ok (.getfield 254, 3) := by decide +kernel
theorem dX8_factor_47 : decode cX8_factor 47 = .ok (.iconst 0, 1) := by decide +kernel
theorem dX8_factor_48 : decode cX8_factor 48 = .ok (.bastore, 1) := by decide +kernel
theorem dX8_factor_49 : decode cX8_factor 49 = .ok (.return_, 1) := by decide +kernel
theorem dX8_barsNow_0 : decode cX8_barsNow 0 = .ok (.aload_n 0, 1) := by decide +kernel
theorem dX8_barsNow_1 : decode cX8_barsNow 1 = .ok (.iconst (-1), 1) := by decide +kernel
theorem dX8_barsNow_2 : decode cX8_barsNow 2 = .ok (.putfield 254, 3) := by decide +kernel
theorem dX8_barsNow_5 : decode cX8_barsNow 5 = .ok (.aload_n 0, 1) := by decide +kernel
theorem dX8_barsNow_6 : decode cX8_barsNow 6 = .ok (.invokevirtual 257, 3) := by decide +kernel
theorem dX8_barsNow_9 : decode cX8_barsNow 9 = .ok (.iconst 0, 1) := by decide +kernel
theorem dX8_barsNow_10 : decode cX8_barsNow 10 = .ok (.istore 4, 2) := by decide +kernel
theorem dX8_barsNow_12 : decode cX8_barsNow 12 = .ok (.iload 4, 2) := by decide +kernel
theorem dX8_barsNow_14 : decode cX8_barsNow 14 = .ok (.aload_n 0, 1) := by decide +kernel
theorem dX8_barsNow_15 : decode cX8_barsNow 15 = .ok (.getfield 39, 3) := by decide +kernel
theorem dX8_barsNow_18 : decode cX8_barsNow 18 = .ok (.iload_n 1, 1) := by decide +kernel
theorem dX8_barsNow_19 : decode cX8_barsNow 19 = .ok (.iaload, 1) := by decide +kernel
theorem dX8_barsNow_20 : decode cX8_barsNow 20 = .ok (.if_icmp .ge 343, 3) := by decide +kernel
theorem dX8_barsNow_23 : decode cX8_barsNow 23 = .ok (.aload_n 0, 1) := by decide +kernel
theorem dX8_barsNow_24 : decode cX8_barsNow 24 = .ok (.getfield 35, 3) := by decide +kernel
theorem dX8_barsNow_27 : decode cX8_barsNow 27 = .ok (.bipush 50, 2) := by decide +kernel
theorem dX8_barsNow_29 : decode cX8_barsNow 29 = .ok (.iload_n 1, 1) := by decide +kernel
theorem dX8_barsNow_30 : decode cX8_barsNow 30 = .ok (.imul, 1) := by decide +kernel
theorem dX8_barsNow_31 : decode cX8_barsNow 31 = .ok (.iload 4, 2) := by decide +kernel
theorem dX8_barsNow_33 : decode cX8_barsNow 33 = .ok (.iadd, 1) := by decide +kernel
theorem dX8_barsNow_34 : decode cX8_barsNow 34 = .ok (.baload, 1) := by decide +kernel
theorem dX8_barsNow_35 : decode cX8_barsNow 35 = .ok (.istore 5, 2) := by decide +kernel
theorem dX8_barsNow_37 : decode cX8_barsNow 37 = .ok (.iinc 4 1, 3) := by decide +kernel
theorem dX8_barsNow_40 : decode cX8_barsNow 40 = .ok (.iload 5, 2) := by decide +kernel
theorem dX8_barsNow_42 : decode cX8_barsNow 42 = .ok (.bipush 33, 2) := by decide +kernel
theorem dX8_barsNow_44 : decode cX8_barsNow 44 = .ok (.if_icmp .ne 32, 3) := by decide +kernel
theorem dX8_barsNow_47 : decode cX8_barsNow 47 = .ok (.aload_n 0, 1) := by decide +kernel
theorem dX8_barsNow_48 : decode cX8_barsNow 48 = .ok (.getfield 88, 3) := by decide +kernel
theorem dX8_barsNow_51 : decode cX8_barsNow 51 = .ok (.aload_n 0, 1) := by decide +kernel
theorem dX8_barsNow_52 : decode cX8_barsNow 52 = .ok (.getfield 254, 3) := by decide +kernel
theorem dX8_barsNow_55 : decode cX8_barsNow 55 = .ok (.aload_n 0, 1) := by decide +kernel
theorem dX8_barsNow_56 : decode cX8_barsNow 56 = .ok (.getfield 88, 3) := by decide +kernel
theorem dX8_barsNow_59 : decode cX8_barsNow 59 = .ok (.aload_n 0, 1) := by decide +kernel
theorem dX8_barsNow_60 : decode cX8_barsNow 60 = .ok (.getfield 254, 3) := by decide +kernel
theorem dX8_barsNow_63 : decode cX8_barsNow 63 = .ok (.baload, 1) := by decide +kernel
theorem dX8_barsNow_64 : decode cX8_barsNow 64 = .ok (.ifCond .ne 7, 3) := by decide +kernel
theorem dX8_barsNow_67 : decode cX8_barsNow 67 = .ok (.iconst 1, 1) := by decide +kernel
theorem dX8_barsNow_68 : decode cX8_barsNow 68 = .ok (.goto 4, 3) := by decide +kernel
theorem dX8_barsNow_71 : decode cX8_barsNow 71 = .ok (.iconst 0, 1) := by decide +kernel
theorem dX8_barsNow_72 : decode cX8_barsNow 72 = .ok (.bastore, 1) := by decide +kernel
theorem dX8_barsNow_73 : decode cX8_barsNow 73 = .ok (.goto 287, 3) := by decide +kernel
theorem dX8_barsNow_76 : decode cX8_barsNow 76 = .ok (.iload 5, 2) := by decide +kernel
theorem dX8_barsNow_78 : decode cX8_barsNow 78 = .ok (.bipush 40, 2) := by decide +kernel
theorem dX8_barsNow_80 : decode cX8_barsNow 80 = .ok (.if_icmp .ne 10, 3) := by decide +kernel
theorem dX8_barsNow_83 : decode cX8_barsNow 83 = .ok (.aload_n 0, 1) := by decide +kernel
theorem dX8_barsNow_84 : decode cX8_barsNow 84 = .ok (.invokevirtual 257, 3) := by decide +kernel
theorem dX8_barsNow_87 : decode cX8_barsNow 87 = .ok (.goto 273, 3) := by decide +kernel
theorem dX8_barsNow_90 : decode cX8_barsNow 90 = .ok (.iload 5, 2) := by decide +kernel
theorem dX8_barsNow_92 : decode cX8_barsNow 92 = .ok (.bipush 41, 2) := by decide +kernel
theorem dX8_barsNow_94 : decode cX8_barsNow 94 = .ok (.if_icmp .ne 53, 3) := by decide +kernel
theorem dX8_barsNow_97 : decode cX8_barsNow 97 = .ok (.aload_n 0, 1) := by decide +kernel
theorem dX8_barsNow_98 : decode cX8_barsNow 98 = .ok (.getfield 82, 3) := by decide +kernel
theorem dX8_barsNow_101 : decode cX8_barsNow 101 = .ok (.aload_n 0, 1) := by decide +kernel
theorem dX8_barsNow_102 : decode cX8_barsNow 102 = .ok (.getfield 254, 3) := by decide +kernel
theorem dX8_barsNow_105 : decode cX8_barsNow 105 = .ok (.baload, 1) := by decide +kernel
theorem dX8_barsNow_106 : decode cX8_barsNow 106 = .ok (.ifCond .ne 15, 3) := by decide +kernel
theorem dX8_barsNow_109 : decode cX8_barsNow 109 = .ok (.aload_n 0, 1) := by decide +kernel
theorem dX8_barsNow_110 : decode cX8_barsNow 110 = .ok (.getfield 85, 3) := by decide +kernel
theorem dX8_barsNow_113 : decode cX8_barsNow 113 = .ok (.aload_n 0, 1) := by decide +kernel
theorem dX8_barsNow_114 : decode cX8_barsNow 114 = .ok (.getfield 254, 3) := by decide +kernel
theorem dX8_barsNow_117 : decode cX8_barsNow 117 = .ok (.baload, 1) := by decide +kernel
theorem dX8_barsNow_118 : decode cX8_barsNow 118 = .ok (.ifCond .eq 7, 3) := by decide +kernel
theorem dX8_barsNow_121 : decode cX8_barsNow 121 = .ok (.iconst 1, 1) := by decide +kernel
theorem dX8_barsNow_122 : decode cX8_barsNow 122 = .ok (.goto 4, 3) := by decide +kernel
theorem dX8_barsNow_125 : decode cX8_barsNow 125 = .ok (.iconst 0, 1) := by decide +kernel
theorem dX8_barsNow_126 : decode cX8_barsNow 126 = .ok (.istore 6, 2) := by decide +kernel
theorem dX8_barsNow_128 : decode cX8_barsNow 128 = .ok (.aload_n 0, 1) := by decide +kernel
theorem dX8_barsNow_129 : decode cX8_barsNow 129 = .ok (.dup, 1) := by decide +kernel
theorem dX8_barsNow_130 : decode cX8_barsNow 130 = .ok (.getfield 254, 3) := by decide +kernel
theorem dX8_barsNow_133 : decode cX8_barsNow 133 = .ok (.iconst 1, 1) := by decide +kernel
theorem dX8_barsNow_134 : decode cX8_barsNow 134 = .ok (.isub, 1) := by decide +kernel
theorem dX8_barsNow_135 : decode cX8_barsNow 135 = .ok (.putfield 254, 3) := by decide +kernel
theorem dX8_barsNow_138 : decode cX8_barsNow 138 = .ok (.aload_n 0, 1) := by decide +kernel
theorem dX8_barsNow_139 : decode cX8_barsNow 139 = .ok (.iload 6, 2) := by decide +kernel
theorem dX8_barsNow_141 : decode cX8_barsNow 141 = .ok (.invokevirtual 260, 3) := by decide +kernel
theorem dX8_barsNow_144 : decode cX8_barsNow 144 = .ok (.goto 216, 3) := by decide +kernel
theorem dX8_barsNow_147 : decode cX8_barsNow 147 = .ok (.iload 5, 2) := by decide +kernel
theorem dX8_barsNow_149 : decode cX8_barsNow 149 = .ok (.bipush 124, 2) := by decide +kernel
theorem dX8_barsNow_151 : decode cX8_barsNow 151 = .ok (.if_icmp .ne 54, 3) := by decide +kernel
theorem dX8_barsNow_154 : decode cX8_barsNow 154 = .ok (.aload_n 0, 1) := by decide +kernel
theorem dX8_barsNow_155 : decode cX8_barsNow 155 = .ok (.getfield 82, 3) := by decide +kernel
theorem dX8_barsNow_158 : decode cX8_barsNow 158 = .ok (.aload_n 0, 1) := by decide +kernel
theorem dX8_barsNow_159 : decode cX8_barsNow 159 = .ok (.getfield 254, 3) := by decide +kernel
theorem dX8_barsNow_162 : decode cX8_barsNow 162 = .ok (.aload_n 0, 1) := by decide +kernel
theorem dX8_barsNow_163 : decode cX8_barsNow 163 = .ok (.getfield 82, 3) := by decide +kernel
theorem dX8_barsNow_166 : decode cX8_barsNow 166 = .ok (.aload_n 0, 1) := by decide +kernel
theorem dX8_barsNow_167 : decode cX8_barsNow 167 = .ok (.getfield 254, 3) := by decide +kernel
theorem dX8_barsNow_170 : decode cX8_barsNow 170 = .ok (.baload, 1) := by decide +kernel
theorem dX8_barsNow_171 : decode cX8_barsNow 171 = .ok (.ifCond .ne 15, 3) := by decide +kernel
theorem dX8_barsNow_174 : decode cX8_barsNow 174 = .ok (.aload_n 0, 1) := by decide +kernel
theorem dX8_barsNow_175 : decode cX8_barsNow 175 = .ok (.getfield 85, 3) := by decide +kernel
theorem dX8_barsNow_178 : decode cX8_barsNow 178 = .ok (.aload_n 0, 1) := by decide +kernel
theorem dX8_barsNow_179 : decode cX8_barsNow 179 = .ok (.getfield 254, 3) := by decide +kernel
theorem dX8_barsNow_182 : decode cX8_barsNow 182 = .ok (.baload, 1) := by decide +kernel
theorem dX8_barsNow_183 : decode cX8_barsNow 183 = .ok (.ifCond .eq 7, 3) := by decide +kernel
theorem dX8_barsNow_186 : decode cX8_barsNow 186 = .ok (.iconst 1, 1) := by decide +kernel
theorem dX8_barsNow_187 : decode cX8_barsNow 187 = .ok (.goto 4, 3) := by decide +kernel
theorem dX8_barsNow_190 : decode cX8_barsNow 190 = .ok (.iconst 0, 1) := by decide +kernel
theorem dX8_barsNow_191 : decode cX8_barsNow 191 = .ok (.bastore, 1) := by decide +kernel
theorem dX8_barsNow_192 : decode cX8_barsNow 192 = .ok (.aload_n 0, 1) := by decide +kernel
theorem dX8_barsNow_193 : decode cX8_barsNow 193 = .ok (.getfield 85, 3) := by decide +kernel
theorem dX8_barsNow_196 : decode cX8_barsNow 196 = .ok (.aload_n 0, 1) := by decide +kernel
theorem dX8_barsNow_197 : decode cX8_barsNow 197 = .ok (.getfield 254, 3) := by decide +kernel
theorem dX8_barsNow_200 : decode cX8_barsNow 200 = .ok (.iconst 1, 1) := by decide +kernel
theorem dX8_barsNow_201 : decode cX8_barsNow 201 = .ok (.bastore, 1) := by decide +kernel
theorem dX8_barsNow_202 : decode cX8_barsNow 202 = .ok (.goto 158, 3) := by decide +kernel
theorem dX8_barsNow_205 : decode cX8_barsNow 205 = .ok (.iload 5, 2) := by decide +kernel
theorem dX8_barsNow_207 : decode cX8_barsNow 207 = .ok (.bipush 38, 2) := by decide +kernel
theorem dX8_barsNow_209 : decode cX8_barsNow 209 = .ok (.if_icmp .eq 151, 3) := by decide +kernel
theorem dX8_barsNow_212 : decode cX8_barsNow 212 = .ok (.aload_n 0, 1) := by decide +kernel
theorem dX8_barsNow_213 : decode cX8_barsNow 213 = .ok (.getfield 35, 3) := by decide +kernel
theorem dX8_barsNow_216 : decode cX8_barsNow 216 = .ok (.bipush 50, 2) := by decide +kernel
theorem dX8_barsNow_218 : decode cX8_barsNow 218 = .ok (.iload_n 1, 1) := by decide +kernel
theorem dX8_barsNow_219 : decode cX8_barsNow 219 = .ok (.imul, 1) := by decide +kernel
theorem dX8_barsNow_220 : decode cX8_barsNow 220 = .ok (.iload 4, 2) := by decide +kernel
theorem dX8_barsNow_222 : decode cX8_barsNow 222 = .ok (.iadd, 1) := by decide +kernel
theorem dX8_barsNow_223 : decode cX8_barsNow 223 = .ok (.baload, 1) := by decide +kernel
theorem dX8_barsNow_224 : decode cX8_barsNow 224 = .ok (.istore 6, 2) := by decide +kernel
theorem dX8_barsNow_226 : decode cX8_barsNow 226 = .ok (.iinc 4 1, 3) := by decide +kernel
theorem dX8_barsNow_229 : decode cX8_barsNow 229 = .ok (.iconst 0, 1) := by decide +kernel
theorem dX8_barsNow_230 : decode cX8_barsNow 230 = .ok (.istore 7, 2) := by decide +kernel
theorem dX8_barsNow_232 : decode cX8_barsNow 232 = .ok (.iload 4, 2) := by decide +kernel
theorem dX8_barsNow_234 : decode cX8_barsNow 234 = .ok (.aload_n 0, 1) := by decide +kernel
theorem dX8_barsNow_235 : decode cX8_barsNow 235 = .ok (.getfield 39, 3) := by decide +kernel
theorem dX8_barsNow_238 : decode cX8_barsNow 238 = .ok (.iload_n 1, 1) := by decide +kernel
theorem dX8_barsNow_239 : decode cX8_barsNow 239 = .ok (.iaload, 1) := by decide +kernel
theorem dX8_barsNow_240 : decode cX8_barsNow 240 = .ok (.if_icmp .ge 50, 3) := by decide +kernel
theorem dX8_barsNow_243 : decode cX8_barsNow 243 = .ok (.aload_n 0, 1) := by decide +kernel
theorem dX8_barsNow_244 : decode cX8_barsNow 244 = .ok (.getfield 35, 3) := by decide +kernel
theorem dX8_barsNow_247 : decode cX8_barsNow 247 = .ok (.bipush 50, 2) := by decide +kernel
theorem dX8_barsNow_249 : decode cX8_barsNow 249 = .ok (.iload_n 1, 1) := by decide +kernel
theorem dX8_barsNow_250 : decode cX8_barsNow 250 = .ok (.imul, 1) := by decide +kernel
theorem dX8_barsNow_251 : decode cX8_barsNow 251 = .ok (.iload 4, 2) := by decide +kernel
theorem dX8_barsNow_253 : decode cX8_barsNow 253 = .ok (.iadd, 1) := by decide +kernel
theorem dX8_barsNow_254 : decode cX8_barsNow 254 = .ok (.baload, 1) := by decide +kernel
theorem dX8_barsNow_255 : decode cX8_barsNow 255 = .ok (.invokestatic 236, 3) := by decide +kernel
theorem dX8_barsNow_258 : decode cX8_barsNow 258 = .ok (.ifCond .eq 32, 3) := by decide +kernel
theorem dX8_barsNow_261 : decode cX8_barsNow 261 = .ok (.bipush 10, 2) := by decide +kernel
theorem dX8_barsNow_263 : decode cX8_barsNow 263 = .ok (.iload 7, 2) := by decide +kernel
theorem dX8_barsNow_265 : decode cX8_barsNow 265 = .ok (.imul, 1) := by decide +kernel
theorem dX8_barsNow_266 : decode cX8_barsNow 266 = .ok (.aload_n 0, 1) := by decide +kernel
theorem dX8_barsNow_267 : decode cX8_barsNow 267 = .ok (.getfield 35, 3) := by decide +kernel
theorem dX8_barsNow_270 : decode cX8_barsNow 270 = .ok (.bipush 50, 2) := by decide +kernel
theorem dX8_barsNow_272 : decode cX8_barsNow 272 = .ok (.iload_n 1, 1) := by decide +kernel
theorem dX8_barsNow_273 : decode cX8_barsNow 273 = .ok (.imul, 1) := by decide +kernel
theorem dX8_barsNow_274 : decode cX8_barsNow 274 = .ok (.iload 4, 2) := by decide +kernel
theorem dX8_barsNow_276 : decode cX8_barsNow 276 = .ok (.iadd, 1) := by decide +kernel
theorem dX8_barsNow_277 : decode cX8_barsNow 277 = .ok (.baload, 1) := by decide +kernel
theorem dX8_barsNow_278 : decode cX8_barsNow 278 = .ok (.iadd, 1) := by decide +kernel
theorem dX8_barsNow_279 : decode cX8_barsNow 279 = .ok (.bipush 48, 2) := by decide +kernel
theorem dX8_barsNow_281 : decode cX8_barsNow 281 = .ok (.isub, 1) := by decide +kernel
theorem dX8_barsNow_282 : decode cX8_barsNow 282 = .ok (.istore 7, 2) := by decide +kernel
theorem dX8_barsNow_284 : decode cX8_barsNow 284 = .ok (.iinc 4 1, 3) := by decide +kernel
theorem dX8_barsNow_287 : decode cX8_barsNow 287 = .ok (.goto (-55), 3) := by decide +kernel
theorem dX8_barsNow_290 : decode cX8_barsNow 290 = .ok (.aload_n 0, 1) := by decide +kernel
theorem dX8_barsNow_291 : decode cX8_barsNow 291 = .ok (.iload 5, 2) := by decide +kernel
theorem dX8_barsNow_293 : decode cX8_barsNow 293 = .ok (.iload_n 2, 1) := by decide +kernel
theorem dX8_barsNow_294 : decode cX8_barsNow 294 = .ok (.iload_n 3, 1) := by decide +kernel
theorem dX8_barsNow_295 : decode cX8_barsNow 295 = .ok (.invokevirtual 264, 3) := by decide +kernel
theorem dX8_barsNow_298 : decode cX8_barsNow 298 = .ok (.istore 8, 2) := by decide +kernel
theorem dX8_barsNow_300 : decode cX8_barsNow 300 = .ok (.aload_n 0, 1) := by decide +kernel
theorem dX8_barsNow_301 : decode cX8_barsNow 301 = .ok (.iload 6, 2) := by decide +kernel
theorem dX8_barsNow_303 : decode cX8_barsNow 303 = .ok (.bipush 60, 2) := by decide +kernel
theorem dX8_barsNow_305 : decode cX8_barsNow 305 = .ok (.if_icmp .ne 18, 3) := by decide +kernel
theorem dX8_barsNow_308 : decode cX8_barsNow 308 = .ok (.iload 8, 2) := by decide +kernel
theorem dX8_barsNow_310 : decode cX8_barsNow 310 = .ok (.iload 7, 2) := by decide +kernel
theorem dX8_barsNow_312 : decode cX8_barsNow 312 = .ok (.if_icmp .ge 7, 3) := by decide +kernel
theorem dX8_barsNow_315 : decode cX8_barsNow 315 = .ok (.iconst 1, 1) := by decide +kernel
theorem dX8_barsNow_316 : decode cX8_barsNow 316 = .ok (.goto 41, 3) := by decide +kernel
theorem dX8_barsNow_319 : decode cX8_barsNow 319 = .ok (.iconst 0, 1) := by decide +kernel
theorem dX8_barsNow_320 : decode cX8_barsNow 320 = .ok (.goto 37, 3) := by decide +kernel
theorem dX8_barsNow_323 : decode cX8_barsNow 323 = .ok (.iload 6, 2) := by decide +kernel
theorem dX8_barsNow_325 : decode cX8_barsNow 325 = .ok (.bipush 62, 2) := by decide +kernel
theorem dX8_barsNow_327 : decode cX8_barsNow 327 = .ok (.if_icmp .ne 18, 3) := by decide +kernel
theorem dX8_barsNow_330 : decode cX8_barsNow 330 = .ok (.iload 8, 2) := by decide +kernel
theorem dX8_barsNow_332 : decode cX8_barsNow 332 = .ok (.iload 7, 2) := by decide +kernel
theorem dX8_barsNow_334 : decode cX8_barsNow 334 = .ok (.if_icmp .le 7, 3) := by decide +kernel
theorem dX8_barsNow_337 : decode cX8_barsNow 337 = .ok (.iconst 1, 1) := by decide +kernel
theorem dX8_barsNow_338 : decode cX8_barsNow 338 = .ok (.goto 19, 3) := by decide +kernel
theorem dX8_barsNow_341 : decode cX8_barsNow 341 = .ok (.iconst 0, 1) := by decide +kernel
theorem dX8_barsNow_342 : decode cX8_barsNow 342 = .ok (.goto 15, 3) := by decide +kernel
theorem dX8_barsNow_345 : decode cX8_barsNow 345 = .ok (.iload 8, 2) := by decide +kernel
theorem dX8_barsNow_347 : decode cX8_barsNow 347 = .ok (.iload 7, 2) := by decide +kernel
theorem dX8_barsNow_349 : decode cX8_barsNow 349 = .ok (.if_icmp .ne 7, 3) := by decide +kernel
theorem dX8_barsNow_352 : decode cX8_barsNow 352 = .ok (.iconst 1, 1) := by decide +kernel
theorem dX8_barsNow_353 : decode cX8_barsNow 353 = .ok (.goto 4, 3) := by decide +kernel
theorem dX8_barsNow_356 : decode cX8_barsNow 356 = .ok (.iconst 0, 1) := by decide +kernel
theorem dX8_barsNow_357 : decode cX8_barsNow 357 = .ok (.invokevirtual 260, 3) := by decide +kernel
theorem dX8_barsNow_360 : decode cX8_barsNow 360 = .ok (.goto (-348), 3) := by decide +kernel
theorem dX8_barsNow_363 : decode cX8_barsNow 363 = .ok (.aload_n 0, 1) := by decide +kernel
theorem dX8_barsNow_364 : decode cX8_barsNow 364 = .ok (.getfield 82, 3) := by decide +kernel
theorem dX8_barsNow_367 : decode cX8_barsNow 367 = .ok (.iconst 0, 1) := by decide +kernel
theorem dX8_barsNow_368 : decode cX8_barsNow 368 = .ok (.baload, 1) := by decide +kernel
theorem dX8_barsNow_369 : decode cX8_barsNow 369 = .ok (.ifCond .ne 12, 3) := by decide +kernel
theorem dX8_barsNow_372 : decode cX8_barsNow 372 = .ok (.aload_n 0, 1) := by decide +kernel
theorem dX8_barsNow_373 : decode cX8_barsNow 373 = .ok (.getfield 85, 3) := by decide +kernel
theorem dX8_barsNow_376 : decode cX8_barsNow 376 = .ok (.iconst 0, 1) := by decide +kernel
theorem dX8_barsNow_377 : decode cX8_barsNow 377 = .ok (.baload, 1) := by decide +kernel
theorem dX8_barsNow_378 : decode cX8_barsNow 378 = .ok (.ifCond .eq 7, 3) := by decide +kernel
theorem dX8_barsNow_381 : decode cX8_barsNow 381 = .ok (.iconst 1, 1) := by decide +kernel
theorem dX8_barsNow_382 : decode cX8_barsNow 382 = .ok (.goto 4, 3) := by decide +kernel
theorem dX8_barsNow_385 : decode cX8_barsNow 385 = .ok (.iconst 0, 1) := by decide +kernel
theorem dX8_barsNow_386 : decode cX8_barsNow 386 = .ok (.ireturn, 1) := by decide +kernel
theorem dX8_bars_0 : decode cX8_bars 0 = .ok (.aload_n 0, 1) := by decide +kernel
theorem dX8_bars_1 : decode cX8_bars 1 = .ok (.iload_n 1, 1) := by decide +kernel
theorem dX8_bars_2 : decode cX8_bars 2 = .ok (.invokevirtual 268, 3) := by decide +kernel
theorem dX8_bars_5 : decode cX8_bars 5 = .ok (.ifCond .eq 12, 3) := by decide +kernel
theorem dX8_bars_8 : decode cX8_bars 8 = .ok (.aload_n 0, 1) := by decide +kernel
theorem dX8_bars_9 : decode cX8_bars 9 = .ok (.iload_n 2, 1) := by decide +kernel
theorem dX8_bars_10 : decode cX8_bars 10 = .ok (.iload_n 3, 1) := by decide +kernel
theorem dX8_bars_11 : decode cX8_bars 11 = .ok (.invokevirtual 200, 3) := by decide +kernel
theorem dX8_bars_14 : decode cX8_bars 14 = .ok (.ifCond .ne 8, 3) := by decide +kernel
theorem dX8_bars_17 : decode cX8_bars 17 = .ok (.bipush (-101), 2) := by decide +kernel
theorem dX8_bars_19 : decode cX8_bars 19 = .ok (.goto 18, 3) := by decide +kernel
theorem dX8_bars_22 : decode cX8_bars 22 = .ok (.aload_n 0, 1) := by decide +kernel
theorem dX8_bars_23 : decode cX8_bars 23 = .ok (.iload_n 1, 1) := by decide +kernel
theorem dX8_bars_24 : decode cX8_bars 24 = .ok (.iload_n 2, 1) := by decide +kernel
theorem dX8_bars_25 : decode cX8_bars 25 = .ok (.iload_n 3, 1) := by decide +kernel
theorem dX8_bars_26 : decode cX8_bars 26 = .ok (.invokevirtual 271, 3) := by decide +kernel
theorem dX8_bars_29 : decode cX8_bars 29 = .ok (.ifCond .eq 7, 3) := by decide +kernel
theorem dX8_bars_32 : decode cX8_bars 32 = .ok (.iconst 1, 1) := by decide +kernel
theorem dX8_bars_33 : decode cX8_bars 33 = .ok (.goto 4, 3) := by decide +kernel
theorem dX8_bars_36 : decode cX8_bars 36 = .ok (.iconst 0, 1) := by decide +kernel
theorem dX8_bars_37 : decode cX8_bars 37 = .ok (.ireturn, 1) := by decide +kernel
theorem dX8_wrong_0 : decode cX8_wrong 0 = .ok (.aload_n 0, 1) := by decide +kernel
theorem dX8_wrong_1 : decode cX8_wrong 1 = .ok (.iload_n 1, 1) := by decide +kernel
theorem dX8_wrong_2 : decode cX8_wrong 2 = .ok (.invokevirtual 268, 3) := by decide +kernel
theorem dX8_wrong_5 : decode cX8_wrong 5 = .ok (.ifCond .ne 6, 3) := by decide +kernel
theorem dX8_wrong_8 : decode cX8_wrong 8 = .ok (.bipush (-101), 2) := by decide +kernel
theorem dX8_wrong_10 : decode cX8_wrong 10 = .ok (.ireturn, 1) := by decide +kernel
theorem dX8_wrong_11 : decode cX8_wrong 11 = .ok (.iload_n 2, 1) := by decide +kernel
theorem dX8_wrong_12 : decode cX8_wrong 12 = .ok (.iconst 0, 1) := by decide +kernel
theorem dX8_wrong_13 : decode cX8_wrong 13 = .ok (.iconst 1, 1) := by decide +kernel
theorem dX8_wrong_14 : decode cX8_wrong 14 = .ok (.invokestatic 94, 3) := by decide +kernel
theorem dX8_wrong_17 : decode cX8_wrong 17 = .ok (.ifCond .ne 6, 3) := by decide +kernel
theorem dX8_wrong_20 : decode cX8_wrong 20 = .ok (.bipush (-102), 2) := by decide +kernel
theorem dX8_wrong_22 : decode cX8_wrong 22 = .ok (.ireturn, 1) := by decide +kernel
theorem dX8_wrong_23 : decode cX8_wrong 23 = .ok (.aload_n 0, 1) := by decide +kernel
theorem dX8_wrong_24 : decode cX8_wrong 24 = .ok (.getfield 274, 3) := by decide +kernel
theorem dX8_wrong_27 : decode cX8_wrong 27 = .ok (.bipush 6, 2) := by decide +kernel
theorem dX8_wrong_29 : decode cX8_wrong 29 = .ok (.if_icmp .ne 6, 3) := by decide +kernel
theorem dX8_wrong_32 : decode cX8_wrong 32 = .ok (.bipush (-103), 2) := by decide +kernel
theorem dX8_wrong_34 : decode cX8_wrong 34 = .ok (.ireturn, 1) := by decide +kernel
theorem dX8_wrong_35 : decode cX8_wrong 35 = .ok (.aload_n 0, 1) := by decide +kernel
theorem dX8_wrong_36 : decode cX8_wrong 36 = .ok (.dup, 1) := by decide +kernel
theorem dX8_wrong_37 : decode cX8_wrong 37 = .ok (.getfield 274, 3) := by decide +kernel
theorem dX8_wrong_40 : decode cX8_wrong 40 = .ok (.iconst 1, 1) := by decide +kernel
theorem dX8_wrong_41 : decode cX8_wrong 41 = .ok (.iadd, 1) := by decide +kernel
theorem dX8_wrong_42 : decode cX8_wrong 42 = .ok (.putfield 274, 3) := by decide +kernel
theorem dX8_wrong_45 : decode cX8_wrong 45 = .ok (.aload_n 0, 1) := by decide +kernel
theorem dX8_wrong_46 : decode cX8_wrong 46 = .ok (.invokevirtual 213, 3) := by decide +kernel
theorem dX8_wrong_49 : decode cX8_wrong 49 = .ok (.istore_n 3, 1) := by decide +kernel
theorem dX8_wrong_50 : decode cX8_wrong 50 = .ok (.iconst 0, 1) := by decide +kernel
theorem dX8_wrong_51 : decode cX8_wrong 51 = .ok (.istore 4, 2) := by decide +kernel
theorem dX8_wrong_53 : decode cX8_wrong 53 = .ok (.iconst 0, 1) := by decide +kernel
theorem dX8_wrong_54 : decode cX8_wrong 54 = .ok (.istore 5, 2) := by decide +kernel
theorem dX8_wrong_56 : decode cX8_wrong 56 = .ok (.iload 5, 2) := by decide +kernel
theorem dX8_wrong_58 : decode cX8_wrong 58 = .ok (.aload_n 0, 1) := by decide +kernel
theorem dX8_wrong_59 : decode cX8_wrong 59 = .ok (.getfield 91, 3) := by decide +kernel
theorem dX8_wrong_62 : decode cX8_wrong 62 = .ok (.if_icmp .ge 121, 3) := by decide +kernel
theorem dX8_wrong_65 : decode cX8_wrong 65 = .ok (.iload_n 3, 1) := by decide +kernel
theorem dX8_wrong_66 : decode cX8_wrong 66 = .ok (.ifCond .eq 117, 3) := by decide +kernel
theorem dX8_wrong_69 : decode cX8_wrong 69 = .ok (.iload 5, 2) := by decide +kernel
theorem dX8_wrong_71 : decode cX8_wrong 71 = .ok (.iconst 1, 1) := by decide +kernel
theorem dX8_wrong_72 : decode cX8_wrong 72 = .ok (.iadd, 1) := by decide +kernel
theorem dX8_wrong_73 : decode cX8_wrong 73 = .ok (.istore 6, 2) := by decide +kernel
theorem dX8_wrong_75 : decode cX8_wrong 75 = .ok (.iload 6, 2) := by decide +kernel
theorem dX8_wrong_77 : decode cX8_wrong 77 = .ok (.aload_n 0, 1) := by decide +kernel
theorem dX8_wrong_78 : decode cX8_wrong 78 = .ok (.getfield 91, 3) := by decide +kernel
theorem dX8_wrong_81 : decode cX8_wrong 81 = .ok (.if_icmp .ge 96, 3) := by decide +kernel
theorem dX8_wrong_84 : decode cX8_wrong 84 = .ok (.aload_n 0, 1) := by decide +kernel
theorem dX8_wrong_85 : decode cX8_wrong 85 = .ok (.iload 5, 2) := by decide +kernel
theorem dX8_wrong_87 : decode cX8_wrong 87 = .ok (.iload 6, 2) := by decide +kernel
theorem dX8_wrong_89 : decode cX8_wrong 89 = .ok (.invokevirtual 203, 3) := by decide +kernel
theorem dX8_wrong_92 : decode cX8_wrong 92 = .ok (.ifCond .eq 79, 3) := by decide +kernel
theorem dX8_wrong_95 : decode cX8_wrong 95 = .ok (.aload_n 0, 1) := by decide +kernel
theorem dX8_wrong_96 : decode cX8_wrong 96 = .ok (.iload 5, 2) := by decide +kernel
theorem dX8_wrong_98 : decode cX8_wrong 98 = .ok (.iload 6, 2) := by decide +kernel
theorem dX8_wrong_100 : decode cX8_wrong 100 = .ok (.iconst (-1), 1) := by decide +kernel
theorem dX8_wrong_101 : decode cX8_wrong 101 = .ok (.iconst (-1), 1) := by decide +kernel
theorem dX8_wrong_102 : decode cX8_wrong 102 = .ok (.iconst 0, 1) := by decide +kernel
theorem dX8_wrong_103 : decode cX8_wrong 103 = .ok (.iconst (-1), 1) := by decide +kernel
theorem dX8_wrong_104 : decode cX8_wrong 104 = .ok (.invokevirtual 217, 3) := by decide +kernel
theorem dX8_wrong_107 : decode cX8_wrong 107 = .ok (.ifCond .eq 64, 3) := by decide +kernel
theorem dX8_wrong_110 : decode cX8_wrong 110 = .ok (.aload_n 0, 1) := by decide +kernel
theorem dX8_wrong_111 : decode cX8_wrong 111 = .ok (.iconst 0, 1) := by decide +kernel
theorem dX8_wrong_112 : decode cX8_wrong 112 = .ok (.invokevirtual 221, 3) := by decide +kernel
theorem dX8_wrong_115 : decode cX8_wrong 115 = .ok (.ifCond .le 7, 3) := by decide +kernel
theorem dX8_wrong_118 : decode cX8_wrong 118 = .ok (.iconst 1, 1) := by decide +kernel
theorem dX8_wrong_119 : decode cX8_wrong 119 = .ok (.goto 4, 3) := by decide +kernel
theorem dX8_wrong_122 : decode cX8_wrong 122 = .ok (.iconst 0, 1) := by decide +kernel
theorem dX8_wrong_123 : decode cX8_wrong 123 = .ok (.istore 7, 2) := by decide +kernel
theorem dX8_wrong_125 : decode cX8_wrong 125 = .ok (.iload 4, 2) := by decide +kernel
theorem dX8_wrong_127 : decode cX8_wrong 127 = .ok (.iload 7, 2) := by decide +kernel
theorem dX8_wrong_129 : decode cX8_wrong 129 = .ok (.iload_n 2, 1) := by decide +kernel
theorem dX8_wrong_130 : decode cX8_wrong 130 = .ok (.ifCond .ne 7, 3) := by decide +kernel
theorem dX8_wrong_133 : decode cX8_wrong 133 = .ok (.iconst 1, 1) := by decide +kernel
theorem dX8_wrong_134 : decode cX8_wrong 134 = .ok (.goto 4, 3) := by decide +kernel
theorem dX8_wrong_137 : decode cX8_wrong 137 = .ok (.iconst 0, 1) := by decide +kernel
theorem dX8_wrong_138 : decode cX8_wrong 138 = .ok (.if_icmp .ne 29, 3) := by decide +kernel
theorem dX8_wrong_141 : decode cX8_wrong 141 = .ok (.aload_n 0, 1) := by decide +kernel
theorem dX8_wrong_142 : decode cX8_wrong 142 = .ok (.iload_n 1, 1) := by decide +kernel
theorem dX8_wrong_143 : decode cX8_wrong 143 = .ok (.iload 5, 2) := by decide +kernel
theorem dX8_wrong_145 : decode cX8_wrong 145 = .ok (.iload 6, 2) := by decide +kernel
theorem dX8_wrong_147 : decode cX8_wrong 147 = .ok (.invokevirtual 271, 3) := by decide +kernel
theorem dX8_wrong_150 : decode cX8_wrong 150 = .ok (.iload_n 2, 1) := by decide +kernel
theorem dX8_wrong_151 : decode cX8_wrong 151 = .ok (.iconst 1, 1) := by decide +kernel
theorem dX8_wrong_152 : decode cX8_wrong 152 = .ok (.if_icmp .ne 7, 3) := by decide +kernel
theorem dX8_wrong_155 : decode cX8_wrong 155 = .ok (.iconst 1, 1) := by decide +kernel
theorem dX8_wrong_156 : decode cX8_wrong 156 = .ok (.goto 4, 3) := by decide +kernel
theorem dX8_wrong_159 : decode cX8_wrong 159 = .ok (.iconst 0, 1) := by decide +kernel
theorem dX8_wrong_160 : decode cX8_wrong 160 = .ok (.if_icmp .ne 7, 3) := by decide +kernel
theorem dX8_wrong_163 : decode cX8_wrong 163 = .ok (.iconst 1, 1) := by decide +kernel
theorem dX8_wrong_164 : decode cX8_wrong 164 = .ok (.goto 4, 3) := by decide +kernel
theorem dX8_wrong_167 : decode cX8_wrong 167 = .ok (.iconst 0, 1) := by decide +kernel
theorem dX8_wrong_168 : decode cX8_wrong 168 = .ok (.iadd, 1) := by decide +kernel
theorem dX8_wrong_169 : decode cX8_wrong 169 = .ok (.istore 4, 2) := by decide +kernel
theorem dX8_wrong_171 : decode cX8_wrong 171 = .ok (.iinc 6 1, 3) := by decide +kernel
theorem dX8_wrong_174 : decode cX8_wrong 174 = .ok (.goto (-99), 3) := by decide +kernel
theorem dX8_wrong_177 : decode cX8_wrong 177 = .ok (.iinc 5 1, 3) := by decide +kernel
theorem dX8_wrong_180 : decode cX8_wrong 180 = .ok (.goto (-124), 3) := by decide +kernel
theorem dX8_wrong_183 : decode cX8_wrong 183 = .ok (.iload 4, 2) := by decide +kernel
theorem dX8_wrong_185 : decode cX8_wrong 185 = .ok (.ireturn, 1) := by decide +kernel
theorem dX8_image_0 : decode cX8_image 0 = .ok (.aload_n 0, 1) := by decide +kernel
theorem dX8_image_1 : decode cX8_image 1 = .ok (.iconst 1, 1) := by decide +kernel
theorem dX8_image_2 : decode cX8_image 2 = .ok (.putfield 277, 3) := by decide +kernel
theorem dX8_image_5 : decode cX8_image 5 = .ok (.aload_n 0, 1) := by decide +kernel
theorem dX8_image_6 : decode cX8_image 6 = .ok (.aload_n 0, 1) := by decide +kernel
theorem dX8_image_7 : decode cX8_image 7 = .ok (.getfield 91, 3) := by decide +kernel
theorem dX8_image_10 : decode cX8_image 10 = .ok (.putfield 280, 3) := by decide +kernel
theorem dX8_image_13 : decode cX8_image 13 = .ok (.aload_n 0, 1) := by decide +kernel
theorem dX8_image_14 : decode cX8_image 14 = .ok (.aload_n 0, 1) := by decide +kernel
theorem dX8_image_15 : decode cX8_image 15 = .ok (.getfield 98, 3) := by decide +kernel
theorem dX8_image_18 : decode cX8_image 18 = .ok (.putfield 283, 3) := by decide +kernel
theorem dX8_image_21 : decode cX8_image 21 = .ok (.iconst 0, 1) := by decide +kernel
theorem dX8_image_22 : decode cX8_image 22 = .ok (.istore_n 1, 1) := by decide +kernel
theorem dX8_image_23 : decode cX8_image 23 = .ok (.iload_n 1, 1) := by decide +kernel
theorem dX8_image_24 : decode cX8_image 24 = .ok (.bipush 6, 2) := by decide +kernel
theorem dX8_image_26 : decode cX8_image 26 = .ok (.if_icmp .ge 45, 3) := by decide +kernel
theorem dX8_image_29 : decode cX8_image 29 = .ok (.aload_n 0, 1) := by decide +kernel
theorem dX8_image_30 : decode cX8_image 30 = .ok (.getfield 45, 3) := by decide +kernel
theorem dX8_image_33 : decode cX8_image 33 = .ok (.iload_n 1, 1) := by decide +kernel
theorem dX8_image_34 : decode cX8_image 34 = .ok (.aload_n 0, 1) := by decide +kernel
theorem dX8_image_35 : decode cX8_image 35 = .ok (.getfield 29, 3) := by decide +kernel
theorem dX8_image_38 : decode cX8_image 38 = .ok (.iload_n 1, 1) := by decide +kernel
theorem dX8_image_39 : decode cX8_image 39 = .ok (.iaload, 1) := by decide +kernel
theorem dX8_image_40 : decode cX8_image 40 = .ok (.iastore, 1) := by decide +kernel
theorem dX8_image_41 : decode cX8_image 41 = .ok (.aload_n 0, 1) := by decide +kernel
theorem dX8_image_42 : decode cX8_image 42 = .ok (.getfield 48, 3) := by decide +kernel
theorem dX8_image_45 : decode cX8_image 45 = .ok (.iload_n 1, 1) := by decide +kernel
theorem dX8_image_46 : decode cX8_image 46 = .ok (.aload_n 0, 1) := by decide +kernel
theorem dX8_image_47 : decode cX8_image 47 = .ok (.getfield 20, 3) := by decide +kernel
theorem dX8_image_50 : decode cX8_image 50 = .ok (.iload_n 1, 1) := by decide +kernel
theorem dX8_image_51 : decode cX8_image 51 = .ok (.iaload, 1) := by decide +kernel
theorem dX8_image_52 : decode cX8_image 52 = .ok (.iastore, 1) := by decide +kernel
theorem dX8_image_53 : decode cX8_image 53 = .ok (.aload_n 0, 1) := by decide +kernel
theorem dX8_image_54 : decode cX8_image 54 = .ok (.getfield 51, 3) := by decide +kernel
theorem dX8_image_57 : decode cX8_image 57 = .ok (.iload_n 1, 1) := by decide +kernel
theorem dX8_image_58 : decode cX8_image 58 = .ok (.aload_n 0, 1) := by decide +kernel
theorem dX8_image_59 : decode cX8_image 59 = .ok (.getfield 16, 3) := by decide +kernel
theorem dX8_image_62 : decode cX8_image 62 = .ok (.iload_n 1, 1) := by decide +kernel
theorem dX8_image_63 : decode cX8_image 63 = .ok (.baload, 1) := by decide +kernel
theorem dX8_image_64 : decode cX8_image 64 = .ok (.bastore, 1) := by decide +kernel
theorem dX8_image_65 : decode cX8_image 65 = .ok (.iinc 1 1, 3) := by decide +kernel
theorem dX8_image_68 : decode cX8_image 68 = .ok (.goto (-45), 3) := by decide +kernel
theorem dX8_image_71 : decode cX8_image 71 = .ok (.aload_n 0, 1) := by decide +kernel
theorem dX8_image_72 : decode cX8_image 72 = .ok (.getfield 98, 3) := by decide +kernel
theorem dX8_image_75 : decode cX8_image 75 = .ok (.ireturn, 1) := by decide +kernel
theorem dX8_restore_0 : decode cX8_restore 0 = .ok (.aload_n 0, 1) := by decide +kernel
theorem dX8_restore_1 : decode cX8_restore 1 = .ok (.getfield 277, 3) := by decide +kernel
theorem dX8_restore_4 : decode cX8_restore 4 = .ok (.ifCond .eq 14, 3) := by decide +kernel
theorem dX8_restore_7 : decode cX8_restore 7 = .ok (.aload_n 0, 1) := by decide +kernel
theorem dX8_restore_8 : decode cX8_restore 8 = .ok (.getfield 283, 3) := by decide +kernel
theorem dX8_restore_11 : decode cX8_restore 11 = .ok (.aload_n 0, 1) := by decide +kernel
theorem dX8_restore_12 : decode cX8_restore 12 = .ok (.getfield 98, 3) := by decide +kernel
theorem dX8_restore_15 : decode cX8_restore 15 = .ok (.if_icmp .eq 6, 3) := by decide +kernel
theorem dX8_restore_18 : decode cX8_restore 18 = .ok (.bipush (-103), 2) := by decide +kernel
theorem dX8_restore_20 : decode cX8_restore 20 = .ok (.ireturn, 1) := by decide +kernel
theorem dX8_restore_21 : decode cX8_restore 21 = .ok (.iconst 0, 1) := by decide +kernel
theorem dX8_restore_22 : decode cX8_restore 22 = .ok (.istore_n 1, 1) := by decide +kernel
theorem dX8_restore_23 : decode cX8_restore 23 = .ok (.iload_n 1, 1) := by decide +kernel
theorem dX8_restore_24 : decode cX8_restore 24 = .ok (.aload_n 0, 1) := by decide +kernel
theorem dX8_restore_25 : decode cX8_restore 25 = .ok (.getfield 98, 3) := by decide +kernel
theorem dX8_restore_28 : decode cX8_restore 28 = .ok (.if_icmp .ge 33, 3) := by decide +kernel
theorem dX8_restore_31 : decode cX8_restore 31 = .ok (.aload_n 0, 1) := by decide +kernel
theorem dX8_restore_32 : decode cX8_restore 32 = .ok (.getfield 29, 3) := by decide +kernel
theorem dX8_restore_35 : decode cX8_restore 35 = .ok (.iload_n 1, 1) := by decide +kernel
theorem dX8_restore_36 : decode cX8_restore 36 = .ok (.aload_n 0, 1) := by decide +kernel
theorem dX8_restore_37 : decode cX8_restore 37 = .ok (.getfield 45, 3) := by decide +kernel
theorem dX8_restore_40 : decode cX8_restore 40 = .ok (.iload_n 1, 1) := by decide +kernel
theorem dX8_restore_41 : decode cX8_restore 41 = .ok (.iaload, 1) := by decide +kernel
theorem dX8_restore_42 : decode cX8_restore 42 = .ok (.iastore, 1) := by decide +kernel
theorem dX8_restore_43 : decode cX8_restore 43 = .ok (.aload_n 0, 1) := by decide +kernel
theorem dX8_restore_44 : decode cX8_restore 44 = .ok (.getfield 20, 3) := by decide +kernel
theorem dX8_restore_47 : decode cX8_restore 47 = .ok (.iload_n 1, 1) := by decide +kernel
theorem dX8_restore_48 : decode cX8_restore 48 = .ok (.aload_n 0, 1) := by decide +kernel
theorem dX8_restore_49 : decode cX8_restore 49 = .ok (.getfield 48, 3) := by decide +kernel
theorem dX8_restore_52 : decode cX8_restore 52 = .ok (.iload_n 1, 1) := by decide +kernel
theorem dX8_restore_53 : decode cX8_restore 53 = .ok (.iaload, 1) := by decide +kernel
theorem dX8_restore_54 : decode cX8_restore 54 = .ok (.iastore, 1) := by decide +kernel
theorem dX8_restore_55 : decode cX8_restore 55 = .ok (.iinc 1 1, 3) := by decide +kernel
theorem dX8_restore_58 : decode cX8_restore 58 = .ok (.goto (-35), 3) := by decide +kernel
theorem dX8_restore_61 : decode cX8_restore 61 = .ok (.iconst 0, 1) := by decide +kernel
theorem dX8_restore_62 : decode cX8_restore 62 = .ok (.istore_n 1, 1) := by decide +kernel
theorem dX8_restore_63 : decode cX8_restore 63 = .ok (.iload_n 1, 1) := by decide +kernel
theorem dX8_restore_64 : decode cX8_restore 64 = .ok (.aload_n 0, 1) := by decide +kernel
theorem dX8_restore_65 : decode cX8_restore 65 = .ok (.getfield 280, 3) := by decide +kernel
theorem dX8_restore_68 : decode cX8_restore 68 = .ok (.if_icmp .ge 21, 3) := by decide +kernel
theorem dX8_restore_71 : decode cX8_restore 71 = .ok (.aload_n 0, 1) := by decide +kernel
theorem dX8_restore_72 : decode cX8_restore 72 = .ok (.getfield 16, 3) := by decide +kernel
theorem dX8_restore_75 : decode cX8_restore 75 = .ok (.iload_n 1, 1) := by decide +kernel
theorem dX8_restore_76 : decode cX8_restore 76 = .ok (.aload_n 0, 1) := by decide +kernel
theorem dX8_restore_77 : decode cX8_restore 77 = .ok (.getfield 51, 3) := by decide +kernel
theorem dX8_restore_80 : decode cX8_restore 80 = .ok (.iload_n 1, 1) := by decide +kernel
theorem dX8_restore_81 : decode cX8_restore 81 = .ok (.baload, 1) := by decide +kernel
theorem dX8_restore_82 : decode cX8_restore 82 = .ok (.bastore, 1) := by decide +kernel
theorem dX8_restore_83 : decode cX8_restore 83 = .ok (.iinc 1 1, 3) := by decide +kernel
theorem dX8_restore_86 : decode cX8_restore 86 = .ok (.goto (-23), 3) := by decide +kernel
theorem dX8_restore_89 : decode cX8_restore 89 = .ok (.aload_n 0, 1) := by decide +kernel
theorem dX8_restore_90 : decode cX8_restore 90 = .ok (.getfield 98, 3) := by decide +kernel
theorem dX8_restore_93 : decode cX8_restore 93 = .ok (.ireturn, 1) := by decide +kernel
theorem dX8_howMany_0 : decode cX8_howMany 0 = .ok (.iload_n 1, 1) := by decide +kernel
theorem dX8_howMany_1 : decode cX8_howMany 1 = .ok (.tableswitch 78 0 6 #[43, 48, 53, 58, 63, 68, 73], 43) := by decide +kernel
theorem dX8_howMany_44 : decode cX8_howMany 44 = .ok (.aload_n 0, 1) := by decide +kernel
theorem dX8_howMany_45 : decode cX8_howMany 45 = .ok (.getfield 91, 3) := by decide +kernel
theorem dX8_howMany_48 : decode cX8_howMany 48 = .ok (.ireturn, 1) := by decide +kernel
theorem dX8_howMany_49 : decode cX8_howMany 49 = .ok (.aload_n 0, 1) := by decide +kernel
theorem dX8_howMany_50 : decode cX8_howMany 50 = .ok (.getfield 98, 3) := by decide +kernel
theorem dX8_howMany_53 : decode cX8_howMany 53 = .ok (.ireturn, 1) := by decide +kernel
theorem dX8_howMany_54 : decode cX8_howMany 54 = .ok (.aload_n 0, 1) := by decide +kernel
theorem dX8_howMany_55 : decode cX8_howMany 55 = .ok (.getfield 101, 3) := by decide +kernel
theorem dX8_howMany_58 : decode cX8_howMany 58 = .ok (.ireturn, 1) := by decide +kernel
theorem dX8_howMany_59 : decode cX8_howMany 59 = .ok (.aload_n 0, 1) := by decide +kernel
theorem dX8_howMany_60 : decode cX8_howMany 60 = .ok (.getfield 248, 3) := by decide +kernel
theorem dX8_howMany_63 : decode cX8_howMany 63 = .ok (.ireturn, 1) := by decide +kernel
theorem dX8_howMany_64 : decode cX8_howMany 64 = .ok (.aload_n 0, 1) := by decide +kernel
theorem dX8_howMany_65 : decode cX8_howMany 65 = .ok (.getfield 230, 3) := by decide +kernel
theorem dX8_howMany_68 : decode cX8_howMany 68 = .ok (.ireturn, 1) := by decide +kernel
theorem dX8_howMany_69 : decode cX8_howMany 69 = .ok (.aload_n 0, 1) := by decide +kernel
theorem dX8_howMany_70 : decode cX8_howMany 70 = .ok (.invokevirtual 128, 3) := by decide +kernel
theorem dX8_howMany_73 : decode cX8_howMany 73 = .ok (.ireturn, 1) := by decide +kernel
theorem dX8_howMany_74 : decode cX8_howMany 74 = .ok (.aload_n 0, 1) := by decide +kernel
theorem dX8_howMany_75 : decode cX8_howMany 75 = .ok (.getfield 274, 3) := by decide +kernel
theorem dX8_howMany_78 : decode cX8_howMany 78 = .ok (.ireturn, 1) := by decide +kernel
theorem dX8_howMany_79 : decode cX8_howMany 79 = .ok (.bipush (-102), 2) := by decide +kernel
theorem dX8_howMany_81 : decode cX8_howMany 81 = .ok (.ireturn, 1) := by decide +kernel
theorem dX8_count_0 : decode cX8_count 0 = .ok (.aload_n 0, 1) := by decide +kernel
theorem dX8_count_1 : decode cX8_count 1 = .ok (.iload_n 1, 1) := by decide +kernel
theorem dX8_count_2 : decode cX8_count 2 = .ok (.invokevirtual 286, 3) := by decide +kernel
theorem dX8_count_5 : decode cX8_count 5 = .ok (.ireturn, 1) := by decide +kernel
theorem dX8_mix_0 : decode cX8_mix 0 = .ok (.aload_n 0, 1) := by decide +kernel
theorem dX8_mix_1 : decode cX8_mix 1 = .ok (.ldc2_w 289, 3) := by decide +kernel
theorem dX8_mix_4 : decode cX8_mix 4 = .ok (.aload_n 0, 1) := by decide +kernel
theorem dX8_mix_5 : decode cX8_mix 5 = .ok (.getfield 291, 3) := by decide +kernel
theorem dX8_mix_8 : decode cX8_mix 8 = .ok (.lmul, 1) := by decide +kernel
theorem dX8_mix_9 : decode cX8_mix 9 = .ok (.lload_n 1, 1) := by decide +kernel
theorem dX8_mix_10 : decode cX8_mix 10 = .ok (.ladd, 1) := by decide +kernel
theorem dX8_mix_11 : decode cX8_mix 11 = .ok (.putfield 291, 3) := by decide +kernel
theorem dX8_mix_14 : decode cX8_mix 14 = .ok (.return_, 1) := by decide +kernel
theorem dX8_digest_0 : decode cX8_digest 0 = .ok (.aload_n 0, 1) := by decide +kernel
theorem dX8_digest_1 : decode cX8_digest 1 = .ok (.ldc2_w 295, 3) := by decide +kernel
theorem dX8_digest_4 : decode cX8_digest 4 = .ok (.putfield 291, 3) := by decide +kernel
theorem dX8_digest_7 : decode cX8_digest 7 = .ok (.iconst 0, 1) := by decide +kernel
theorem dX8_digest_8 : decode cX8_digest 8 = .ok (.istore_n 1, 1) := by decide +kernel
theorem dX8_digest_9 : decode cX8_digest 9 = .ok (.iload_n 1, 1) := by decide +kernel
theorem dX8_digest_10 : decode cX8_digest 10 = .ok (.aload_n 0, 1) := by decide +kernel
theorem dX8_digest_11 : decode cX8_digest 11 = .ok (.getfield 91, 3) := by decide +kernel
theorem dX8_digest_14 : decode cX8_digest 14 = .ok (.if_icmp .ge 41, 3) := by decide +kernel
theorem dX8_digest_17 : decode cX8_digest 17 = .ok (.aload_n 0, 1) := by decide +kernel
theorem dX8_digest_18 : decode cX8_digest 18 = .ok (.aload_n 0, 1) := by decide +kernel
theorem dX8_digest_19 : decode cX8_digest 19 = .ok (.getfield 7, 3) := by decide +kernel
theorem dX8_digest_22 : decode cX8_digest 22 = .ok (.iload_n 1, 1) := by decide +kernel
theorem dX8_digest_23 : decode cX8_digest 23 = .ok (.iaload, 1) := by decide +kernel
theorem dX8_digest_24 : decode cX8_digest 24 = .ok (.i2l, 1) := by decide +kernel
theorem dX8_digest_25 : decode cX8_digest 25 = .ok (.invokevirtual 297, 3) := by decide +kernel
theorem dX8_digest_28 : decode cX8_digest 28 = .ok (.aload_n 0, 1) := by decide +kernel
theorem dX8_digest_29 : decode cX8_digest 29 = .ok (.aload_n 0, 1) := by decide +kernel
theorem dX8_digest_30 : decode cX8_digest 30 = .ok (.getfield 13, 3) := by decide +kernel
theorem dX8_digest_33 : decode cX8_digest 33 = .ok (.iload_n 1, 1) := by decide +kernel
theorem dX8_digest_34 : decode cX8_digest 34 = .ok (.iaload, 1) := by decide +kernel
theorem dX8_digest_35 : decode cX8_digest 35 = .ok (.i2l, 1) := by decide +kernel
theorem dX8_digest_36 : decode cX8_digest 36 = .ok (.invokevirtual 297, 3) := by decide +kernel
theorem dX8_digest_39 : decode cX8_digest 39 = .ok (.aload_n 0, 1) := by decide +kernel
theorem dX8_digest_40 : decode cX8_digest 40 = .ok (.aload_n 0, 1) := by decide +kernel
theorem dX8_digest_41 : decode cX8_digest 41 = .ok (.iload_n 1, 1) := by decide +kernel
theorem dX8_digest_42 : decode cX8_digest 42 = .ok (.invokevirtual 144, 3) := by decide +kernel
theorem dX8_digest_45 : decode cX8_digest 45 = .ok (.i2l, 1) := by decide +kernel
theorem dX8_digest_46 : decode cX8_digest 46 = .ok (.invokevirtual 297, 3) := by decide +kernel
theorem dX8_digest_49 : decode cX8_digest 49 = .ok (.iinc 1 1, 3) := by decide +kernel
theorem dX8_digest_52 : decode cX8_digest 52 = .ok (.goto (-43), 3) := by decide +kernel
theorem dX8_digest_55 : decode cX8_digest 55 = .ok (.iconst 0, 1) := by decide +kernel
theorem dX8_digest_56 : decode cX8_digest 56 = .ok (.istore_n 1, 1) := by decide +kernel
theorem dX8_digest_57 : decode cX8_digest 57 = .ok (.iload_n 1, 1) := by decide +kernel
theorem dX8_digest_58 : decode cX8_digest 58 = .ok (.aload_n 0, 1) := by decide +kernel
theorem dX8_digest_59 : decode cX8_digest 59 = .ok (.getfield 98, 3) := by decide +kernel
theorem dX8_digest_62 : decode cX8_digest 62 = .ok (.if_icmp .ge 34, 3) := by decide +kernel
theorem dX8_digest_65 : decode cX8_digest 65 = .ok (.iconst 0, 1) := by decide +kernel
theorem dX8_digest_66 : decode cX8_digest 66 = .ok (.istore_n 2, 1) := by decide +kernel
theorem dX8_digest_67 : decode cX8_digest 67 = .ok (.iload_n 2, 1) := by decide +kernel
theorem dX8_digest_68 : decode cX8_digest 68 = .ok (.bipush 6, 2) := by decide +kernel
theorem dX8_digest_70 : decode cX8_digest 70 = .ok (.if_icmp .ge 20, 3) := by decide +kernel
theorem dX8_digest_73 : decode cX8_digest 73 = .ok (.aload_n 0, 1) := by decide +kernel
theorem dX8_digest_74 : decode cX8_digest 74 = .ok (.aload_n 0, 1) := by decide +kernel
theorem dX8_digest_75 : decode cX8_digest 75 = .ok (.iload_n 1, 1) := by decide +kernel
theorem dX8_digest_76 : decode cX8_digest 76 = .ok (.iload_n 2, 1) := by decide +kernel
theorem dX8_digest_77 : decode cX8_digest 77 = .ok (.invokevirtual 135, 3) := by decide +kernel
theorem dX8_digest_80 : decode cX8_digest 80 = .ok (.i2l, 1) := by decide +kernel
theorem dX8_digest_81 : decode cX8_digest 81 = .ok (.invokevirtual 297, 3) := by decide +kernel
theorem dX8_digest_84 : decode cX8_digest 84 = .ok (.iinc 2 1, 3) := by decide +kernel
theorem dX8_digest_87 : decode cX8_digest 87 = .ok (.goto (-20), 3) := by decide +kernel
theorem dX8_digest_90 : decode cX8_digest 90 = .ok (.iinc 1 1, 3) := by decide +kernel
theorem dX8_digest_93 : decode cX8_digest 93 = .ok (.goto (-36), 3) := by decide +kernel
theorem dX8_digest_96 : decode cX8_digest 96 = .ok (.iconst 0, 1) := by decide +kernel
theorem dX8_digest_97 : decode cX8_digest 97 = .ok (.istore_n 1, 1) := by decide +kernel
theorem dX8_digest_98 : decode cX8_digest 98 = .ok (.iload_n 1, 1) := by decide +kernel
theorem dX8_digest_99 : decode cX8_digest 99 = .ok (.aload_n 0, 1) := by decide +kernel
theorem dX8_digest_100 : decode cX8_digest 100 = .ok (.getfield 101, 3) := by decide +kernel
theorem dX8_digest_103 : decode cX8_digest 103 = .ok (.if_icmp .ge 54, 3) := by decide +kernel
theorem dX8_digest_106 : decode cX8_digest 106 = .ok (.iconst 0, 1) := by decide +kernel
theorem dX8_digest_107 : decode cX8_digest 107 = .ok (.istore_n 2, 1) := by decide +kernel
theorem dX8_digest_108 : decode cX8_digest 108 = .ok (.iload_n 2, 1) := by decide +kernel
theorem dX8_digest_109 : decode cX8_digest 109 = .ok (.bipush 6, 2) := by decide +kernel
theorem dX8_digest_111 : decode cX8_digest 111 = .ok (.if_icmp .ge 20, 3) := by decide +kernel
theorem dX8_digest_114 : decode cX8_digest 114 = .ok (.aload_n 0, 1) := by decide +kernel
theorem dX8_digest_115 : decode cX8_digest 115 = .ok (.aload_n 0, 1) := by decide +kernel
theorem dX8_digest_116 : decode cX8_digest 116 = .ok (.iload_n 1, 1) := by decide +kernel
theorem dX8_digest_117 : decode cX8_digest 117 = .ok (.iload_n 2, 1) := by decide +kernel
theorem dX8_digest_118 : decode cX8_digest 118 = .ok (.invokevirtual 112, 3) := by decide +kernel
theorem dX8_digest_121 : decode cX8_digest 121 = .ok (.i2l, 1) := by decide +kernel
theorem dX8_digest_122 : decode cX8_digest 122 = .ok (.invokevirtual 297, 3) := by decide +kernel
theorem dX8_digest_125 : decode cX8_digest 125 = .ok (.iinc 2 1, 3) := by decide +kernel
theorem dX8_digest_128 : decode cX8_digest 128 = .ok (.goto (-20), 3) := by decide +kernel
theorem dX8_digest_131 : decode cX8_digest 131 = .ok (.aload_n 0, 1) := by decide +kernel
theorem dX8_digest_132 : decode cX8_digest 132 = .ok (.aload_n 0, 1) := by decide +kernel
theorem dX8_digest_133 : decode cX8_digest 133 = .ok (.iload_n 1, 1) := by decide +kernel
theorem dX8_digest_134 : decode cX8_digest 134 = .ok (.invokevirtual 125, 3) := by decide +kernel
theorem dX8_digest_137 : decode cX8_digest 137 = .ok (.i2l, 1) := by decide +kernel
theorem dX8_digest_138 : decode cX8_digest 138 = .ok (.invokevirtual 297, 3) := by decide +kernel
theorem dX8_digest_141 : decode cX8_digest 141 = .ok (.aload_n 0, 1) := by decide +kernel
theorem dX8_digest_142 : decode cX8_digest 142 = .ok (.aload_n 0, 1) := by decide +kernel
theorem dX8_digest_143 : decode cX8_digest 143 = .ok (.iload_n 1, 1) := by decide +kernel
theorem dX8_digest_144 : decode cX8_digest 144 = .ok (.invokevirtual 141, 3) := by decide +kernel
theorem dX8_digest_147 : decode cX8_digest 147 = .ok (.i2l, 1) := by decide +kernel
theorem dX8_digest_148 : decode cX8_digest 148 = .ok (.invokevirtual 297, 3) := by decide +kernel
theorem dX8_digest_151 : decode cX8_digest 151 = .ok (.iinc 1 1, 3) := by decide +kernel
theorem dX8_digest_154 : decode cX8_digest 154 = .ok (.goto (-56), 3) := by decide +kernel
theorem dX8_digest_157 : decode cX8_digest 157 = .ok (.iconst 0, 1) := by decide +kernel
theorem dX8_digest_158 : decode cX8_digest 158 = .ok (.istore_n 1, 1) := by decide +kernel
theorem dX8_digest_159 : decode cX8_digest 159 = .ok (.iload_n 1, 1) := by decide +kernel
theorem dX8_digest_160 : decode cX8_digest 160 = .ok (.aload_n 0, 1) := by decide +kernel
theorem dX8_digest_161 : decode cX8_digest 161 = .ok (.getfield 248, 3) := by decide +kernel
theorem dX8_digest_164 : decode cX8_digest 164 = .ok (.if_icmp .ge 62, 3) := by decide +kernel
theorem dX8_digest_167 : decode cX8_digest 167 = .ok (.iconst 0, 1) := by decide +kernel
theorem dX8_digest_168 : decode cX8_digest 168 = .ok (.istore_n 2, 1) := by decide +kernel
theorem dX8_digest_169 : decode cX8_digest 169 = .ok (.iload_n 2, 1) := by decide +kernel
theorem dX8_digest_170 : decode cX8_digest 170 = .ok (.aload_n 0, 1) := by decide +kernel
theorem dX8_digest_171 : decode cX8_digest 171 = .ok (.getfield 91, 3) := by decide +kernel
theorem dX8_digest_174 : decode cX8_digest 174 = .ok (.if_icmp .ge 46, 3) := by decide +kernel
theorem dX8_digest_177 : decode cX8_digest 177 = .ok (.iload_n 2, 1) := by decide +kernel
theorem dX8_digest_178 : decode cX8_digest 178 = .ok (.iconst 1, 1) := by decide +kernel
theorem dX8_digest_179 : decode cX8_digest 179 = .ok (.iadd, 1) := by decide +kernel
theorem dX8_digest_180 : decode cX8_digest 180 = .ok (.istore_n 3, 1) := by decide +kernel
theorem dX8_digest_181 : decode cX8_digest 181 = .ok (.iload_n 3, 1) := by decide +kernel
theorem dX8_digest_182 : decode cX8_digest 182 = .ok (.aload_n 0, 1) := by decide +kernel
theorem dX8_digest_183 : decode cX8_digest 183 = .ok (.getfield 91, 3) := by decide +kernel
theorem dX8_digest_186 : decode cX8_digest 186 = .ok (.if_icmp .ge 28, 3) := by decide +kernel
theorem dX8_digest_189 : decode cX8_digest 189 = .ok (.aload_n 0, 1) := by decide +kernel
theorem dX8_digest_190 : decode cX8_digest 190 = .ok (.aload_n 0, 1) := by decide +kernel
theorem dX8_digest_191 : decode cX8_digest 191 = .ok (.iload_n 1, 1) := by decide +kernel
theorem dX8_digest_192 : decode cX8_digest 192 = .ok (.iload_n 2, 1) := by decide +kernel
theorem dX8_digest_193 : decode cX8_digest 193 = .ok (.iload_n 3, 1) := by decide +kernel
theorem dX8_digest_194 : decode cX8_digest 194 = .ok (.invokevirtual 271, 3) := by decide +kernel
theorem dX8_digest_197 : decode cX8_digest 197 = .ok (.ifCond .eq 7, 3) := by decide +kernel
theorem dX8_digest_200 : decode cX8_digest 200 = .ok (.lconst 1, 1) := by decide +kernel
theorem dX8_digest_201 : decode cX8_digest 201 = .ok (.goto 4, 3) := by decide +kernel
theorem dX8_digest_204 : decode cX8_digest 204 = .ok (.lconst 0, 1) := by decide +kernel
theorem dX8_digest_205 : decode cX8_digest 205 = .ok (.invokevirtual 297, 3) := by decide +kernel
theorem dX8_digest_208 : decode cX8_digest 208 = .ok (.iinc 3 1, 3) := by decide +kernel
theorem dX8_digest_211 : decode cX8_digest 211 = .ok (.goto (-30), 3) := by decide +kernel
theorem dX8_digest_214 : decode cX8_digest 214 = .ok (.iinc 2 1, 3) := by decide +kernel
theorem dX8_digest_217 : decode cX8_digest 217 = .ok (.goto (-48), 3) := by decide +kernel
theorem dX8_digest_220 : decode cX8_digest 220 = .ok (.iinc 1 1, 3) := by decide +kernel
theorem dX8_digest_223 : decode cX8_digest 223 = .ok (.goto (-64), 3) := by decide +kernel
theorem dX8_digest_226 : decode cX8_digest 226 = .ok (.iconst 0, 1) := by decide +kernel
theorem dX8_digest_227 : decode cX8_digest 227 = .ok (.istore_n 1, 1) := by decide +kernel
theorem dX8_digest_228 : decode cX8_digest 228 = .ok (.iload_n 1, 1) := by decide +kernel
theorem dX8_digest_229 : decode cX8_digest 229 = .ok (.aload_n 0, 1) := by decide +kernel
theorem dX8_digest_230 : decode cX8_digest 230 = .ok (.getfield 230, 3) := by decide +kernel
theorem dX8_digest_233 : decode cX8_digest 233 = .ok (.if_icmp .ge 20, 3) := by decide +kernel
theorem dX8_digest_236 : decode cX8_digest 236 = .ok (.aload_n 0, 1) := by decide +kernel
theorem dX8_digest_237 : decode cX8_digest 237 = .ok (.aload_n 0, 1) := by decide +kernel
theorem dX8_digest_238 : decode cX8_digest 238 = .ok (.getfield 42, 3) := by decide +kernel
theorem dX8_digest_241 : decode cX8_digest 241 = .ok (.iload_n 1, 1) := by decide +kernel
theorem dX8_digest_242 : decode cX8_digest 242 = .ok (.baload, 1) := by decide +kernel
theorem dX8_digest_243 : decode cX8_digest 243 = .ok (.i2l, 1) := by decide +kernel
theorem dX8_digest_244 : decode cX8_digest 244 = .ok (.invokevirtual 297, 3) := by decide +kernel
theorem dX8_digest_247 : decode cX8_digest 247 = .ok (.iinc 1 1, 3) := by decide +kernel
theorem dX8_digest_250 : decode cX8_digest 250 = .ok (.goto (-22), 3) := by decide +kernel
theorem dX8_digest_253 : decode cX8_digest 253 = .ok (.iconst 0, 1) := by decide +kernel
theorem dX8_digest_254 : decode cX8_digest 254 = .ok (.istore_n 1, 1) := by decide +kernel
theorem dX8_digest_255 : decode cX8_digest 255 = .ok (.iload_n 1, 1) := by decide +kernel
theorem dX8_digest_256 : decode cX8_digest 256 = .ok (.bipush 7, 2) := by decide +kernel
theorem dX8_digest_258 : decode cX8_digest 258 = .ok (.if_icmp .ge 19, 3) := by decide +kernel
theorem dX8_digest_261 : decode cX8_digest 261 = .ok (.aload_n 0, 1) := by decide +kernel
theorem dX8_digest_262 : decode cX8_digest 262 = .ok (.aload_n 0, 1) := by decide +kernel
theorem dX8_digest_263 : decode cX8_digest 263 = .ok (.iload_n 1, 1) := by decide +kernel
theorem dX8_digest_264 : decode cX8_digest 264 = .ok (.invokevirtual 286, 3) := by decide +kernel
theorem dX8_digest_267 : decode cX8_digest 267 = .ok (.i2l, 1) := by decide +kernel
theorem dX8_digest_268 : decode cX8_digest 268 = .ok (.invokevirtual 297, 3) := by decide +kernel
theorem dX8_digest_271 : decode cX8_digest 271 = .ok (.iinc 1 1, 3) := by decide +kernel
theorem dX8_digest_274 : decode cX8_digest 274 = .ok (.goto (-19), 3) := by decide +kernel
theorem dX8_digest_277 : decode cX8_digest 277 = .ok (.aload_n 0, 1) := by decide +kernel
theorem dX8_digest_278 : decode cX8_digest 278 = .ok (.getfield 291, 3) := by decide +kernel
theorem dX8_digest_281 : decode cX8_digest 281 = .ok (.lreturn, 1) := by decide +kernel
end
section
def gx_U : List Cond := lw_tbl.filter goodWord
theorem gx_mu {w : Cond} (h : w ∈ lw_tbl) (hg : goodWord w = true) : w ∈ gx_U := List.mem_filter.mpr ⟨h, hg⟩
theorem gx_t_p {w : Cond} (h : w ∈ k2_sels lw_privs) : w ∈ lw_tbl := List.mem_append_left _ h
theorem gx_t_1 {w : Cond} (h : w ∈ tables_1_1) : w ∈ lw_tbl := List.mem_append_right _ (List.mem_append_left _ h)
theorem gx_t_2 {w : Cond} (h : w ∈ tables_1_2) : w ∈ lw_tbl := List.mem_append_right _ (List.mem_append_right _ (List.mem_append_left _ h))
theorem gx_t_3 {w : Cond} (h : w ∈ tables_1_3) : w ∈ lw_tbl := List.mem_append_right _ (List.mem_append_right _ (List.mem_append_right _ (List.mem_append_left _ h)))
theorem gx_t_4 {w : Cond} (h : w ∈ tables_1_4) : w ∈ lw_tbl := List.mem_append_right _ (List.mem_append_right _ (List.mem_append_right _ (List.mem_append_right _ (List.mem_append_left _ h))))
theorem gx_t_5 {w : Cond} (h : w ∈ tables_1_5) : w ∈ lw_tbl := List.mem_append_right _ (List.mem_append_right _ (List.mem_append_right _ (List.mem_append_right _ (List.mem_append_right _ (List.mem_append_left _ h)))))
theorem gx_t_6 {w : Cond} (h : w ∈ tables_1_6) : w ∈ lw_tbl := List.mem_append_right _ (List.mem_append_right _ (List.mem_append_right _ (List.mem_append_right _ (List.mem_append_right _ (List.mem_append_right _ (h))))))
theorem gx_uu : gx_sub gx_U gx_U := fun w hw => ⟨hw, good_of_word (List.mem_filter.mp hw).2⟩
def gty (ι : Nat → ClassId) : List (ClassId × FieldType) := [(ι 0, .int), (ι 1, .boolean), (ι 2, .char), (ι 3, .byte), (ι 4, (.array .int)), (ι 5, (.object "ShopsAsOne$Text"))]
theorem iu_X0 : ∀ w ∈ u_ws RX0 TX0 13, w ∈ gx_U := by
  intro w hw
  obtain ⟨k, hk, rfl⟩ := List.mem_map.mp hw
  have hk := List.mem_range.mp hk
  match k, hk with
  | 0, _ => exact gx_mu (gx_t_1 (List.mem_of_getElem? (i := 159) rfl)) rfl
  | 1, _ => exact gx_mu (gx_t_1 (List.mem_of_getElem? (i := 161) rfl)) rfl
  | 2, _ => exact gx_mu (gx_t_1 (List.mem_of_getElem? (i := 163) rfl)) rfl
  | 3, _ => exact gx_mu (gx_t_1 (List.mem_of_getElem? (i := 165) rfl)) rfl
  | 4, _ => exact gx_mu (gx_t_1 (List.mem_of_getElem? (i := 167) rfl)) rfl
  | 5, _ => exact gx_mu (gx_t_1 (List.mem_of_getElem? (i := 169) rfl)) rfl
  | 6, _ => exact gx_mu (gx_t_1 (List.mem_of_getElem? (i := 171) rfl)) rfl
  | 7, _ => exact gx_mu (gx_t_1 (List.mem_of_getElem? (i := 173) rfl)) rfl
  | 8, _ => exact gx_mu (gx_t_1 (List.mem_of_getElem? (i := 175) rfl)) rfl
  | 9, _ => exact gx_mu (gx_t_1 (List.mem_of_getElem? (i := 177) rfl)) rfl
  | 10, _ => exact gx_mu (gx_t_1 (List.mem_of_getElem? (i := 179) rfl)) rfl
  | 11, _ => exact gx_mu (gx_t_1 (List.mem_of_getElem? (i := 181) rfl)) rfl
  | 12, _ => exact gx_mu (gx_t_1 (List.mem_of_getElem? (i := 183) rfl)) rfl
  | k + 13, hk => exact absurd hk (by omega)
theorem cls_X0 {ι : Nat → ClassId} {cl : List vw_C} {tys : List (ClassId × FieldType)} (hx : gx_std vwCl (gty ι) cl tys) : gx_cls cl 0 RX0 TX0 13 tyX0 := ⟨by rw [hx.1]; rfl, tyX0_ok, nmX0⟩
theorem iu_X1 : ∀ w ∈ u_ws RX1 TX1 3, w ∈ gx_U := by
  intro w hw
  obtain ⟨k, hk, rfl⟩ := List.mem_map.mp hw
  have hk := List.mem_range.mp hk
  match k, hk with
  | 0, _ => exact gx_mu (gx_t_1 (List.mem_of_getElem? (i := 238) rfl)) rfl
  | 1, _ => exact gx_mu (gx_t_2 (List.mem_of_getElem? (i := 0) rfl)) rfl
  | 2, _ => exact gx_mu (gx_t_2 (List.mem_of_getElem? (i := 2) rfl)) rfl
  | k + 3, hk => exact absurd hk (by omega)
theorem cls_X1 {ι : Nat → ClassId} {cl : List vw_C} {tys : List (ClassId × FieldType)} (hx : gx_std vwCl (gty ι) cl tys) : gx_cls cl 1 RX1 TX1 3 tyX1 := ⟨by rw [hx.1]; rfl, tyX1_ok, nmX1⟩
theorem iu_X2 : ∀ w ∈ u_ws RX2 TX2 5, w ∈ gx_U := by
  intro w hw
  obtain ⟨k, hk, rfl⟩ := List.mem_map.mp hw
  have hk := List.mem_range.mp hk
  match k, hk with
  | 0, _ => exact gx_mu (gx_t_1 (List.mem_of_getElem? (i := 199) rfl)) rfl
  | 1, _ => exact gx_mu (gx_t_1 (List.mem_of_getElem? (i := 201) rfl)) rfl
  | 2, _ => exact gx_mu (gx_t_1 (List.mem_of_getElem? (i := 203) rfl)) rfl
  | 3, _ => exact gx_mu (gx_t_1 (List.mem_of_getElem? (i := 205) rfl)) rfl
  | 4, _ => exact gx_mu (gx_t_1 (List.mem_of_getElem? (i := 207) rfl)) rfl
  | k + 5, hk => exact absurd hk (by omega)
theorem cls_X2 {ι : Nat → ClassId} {cl : List vw_C} {tys : List (ClassId × FieldType)} (hx : gx_std vwCl (gty ι) cl tys) : gx_cls cl 2 RX2 TX2 5 tyX2 := ⟨by rw [hx.1]; rfl, tyX2_ok, nmX2⟩
theorem iu_X3 : ∀ w ∈ u_ws RX3 TX3 10, w ∈ gx_U := by
  intro w hw
  obtain ⟨k, hk, rfl⟩ := List.mem_map.mp hw
  have hk := List.mem_range.mp hk
  match k, hk with
  | 0, _ => exact gx_mu (gx_t_2 (List.mem_of_getElem? (i := 21) rfl)) rfl
  | 1, _ => exact gx_mu (gx_t_2 (List.mem_of_getElem? (i := 23) rfl)) rfl
  | 2, _ => exact gx_mu (gx_t_2 (List.mem_of_getElem? (i := 25) rfl)) rfl
  | 3, _ => exact gx_mu (gx_t_2 (List.mem_of_getElem? (i := 27) rfl)) rfl
  | 4, _ => exact gx_mu (gx_t_2 (List.mem_of_getElem? (i := 29) rfl)) rfl
  | 5, _ => exact gx_mu (gx_t_2 (List.mem_of_getElem? (i := 31) rfl)) rfl
  | 6, _ => exact gx_mu (gx_t_2 (List.mem_of_getElem? (i := 33) rfl)) rfl
  | 7, _ => exact gx_mu (gx_t_2 (List.mem_of_getElem? (i := 35) rfl)) rfl
  | 8, _ => exact gx_mu (gx_t_2 (List.mem_of_getElem? (i := 37) rfl)) rfl
  | 9, _ => exact gx_mu (gx_t_2 (List.mem_of_getElem? (i := 39) rfl)) rfl
  | k + 10, hk => exact absurd hk (by omega)
theorem cls_X3 {ι : Nat → ClassId} {cl : List vw_C} {tys : List (ClassId × FieldType)} (hx : gx_std vwCl (gty ι) cl tys) : gx_cls cl 3 RX3 TX3 10 tyX3 := ⟨by rw [hx.1]; rfl, tyX3_ok, nmX3⟩
theorem iu_X4 : ∀ w ∈ u_ws RX4 TX4 4, w ∈ gx_U := by
  intro w hw
  obtain ⟨k, hk, rfl⟩ := List.mem_map.mp hw
  have hk := List.mem_range.mp hk
  match k, hk with
  | 0, _ => exact gx_mu (gx_t_1 (List.mem_of_getElem? (i := 127) rfl)) rfl
  | 1, _ => exact gx_mu (gx_t_1 (List.mem_of_getElem? (i := 129) rfl)) rfl
  | 2, _ => exact gx_mu (gx_t_1 (List.mem_of_getElem? (i := 131) rfl)) rfl
  | 3, _ => exact gx_mu (gx_t_1 (List.mem_of_getElem? (i := 133) rfl)) rfl
  | k + 4, hk => exact absurd hk (by omega)
theorem cls_X4 {ι : Nat → ClassId} {cl : List vw_C} {tys : List (ClassId × FieldType)} (hx : gx_std vwCl (gty ι) cl tys) : gx_cls cl 4 RX4 TX4 4 tyX4 := ⟨by rw [hx.1]; rfl, tyX4_ok, nmX4⟩
theorem iu_X5 : ∀ w ∈ u_ws RX5 TX5 14, w ∈ gx_U := by
  intro w hw
  obtain ⟨k, hk, rfl⟩ := List.mem_map.mp hw
  have hk := List.mem_range.mp hk
  match k, hk with
  | 0, _ => exact gx_mu (gx_t_1 (List.mem_of_getElem? (i := 79) rfl)) rfl
  | 1, _ => exact gx_mu (gx_t_1 (List.mem_of_getElem? (i := 81) rfl)) rfl
  | 2, _ => exact gx_mu (gx_t_1 (List.mem_of_getElem? (i := 83) rfl)) rfl
  | 3, _ => exact gx_mu (gx_t_1 (List.mem_of_getElem? (i := 85) rfl)) rfl
  | 4, _ => exact gx_mu (gx_t_1 (List.mem_of_getElem? (i := 87) rfl)) rfl
  | 5, _ => exact gx_mu (gx_t_1 (List.mem_of_getElem? (i := 89) rfl)) rfl
  | 6, _ => exact gx_mu (gx_t_1 (List.mem_of_getElem? (i := 91) rfl)) rfl
  | 7, _ => exact gx_mu (gx_t_1 (List.mem_of_getElem? (i := 93) rfl)) rfl
  | 8, _ => exact gx_mu (gx_t_1 (List.mem_of_getElem? (i := 95) rfl)) rfl
  | 9, _ => exact gx_mu (gx_t_1 (List.mem_of_getElem? (i := 97) rfl)) rfl
  | 10, _ => exact gx_mu (gx_t_1 (List.mem_of_getElem? (i := 99) rfl)) rfl
  | 11, _ => exact gx_mu (gx_t_1 (List.mem_of_getElem? (i := 101) rfl)) rfl
  | 12, _ => exact gx_mu (gx_t_1 (List.mem_of_getElem? (i := 103) rfl)) rfl
  | 13, _ => exact gx_mu (gx_t_1 (List.mem_of_getElem? (i := 105) rfl)) rfl
  | k + 14, hk => exact absurd hk (by omega)
theorem cls_X5 {ι : Nat → ClassId} {cl : List vw_C} {tys : List (ClassId × FieldType)} (hx : gx_std vwCl (gty ι) cl tys) : gx_cls cl 5 RX5 TX5 14 tyX5 := ⟨by rw [hx.1]; rfl, tyX5_ok, nmX5⟩
theorem iu_X6 : ∀ w ∈ u_ws RX6 TX6 2, w ∈ gx_U := by
  intro w hw
  obtain ⟨k, hk, rfl⟩ := List.mem_map.mp hw
  have hk := List.mem_range.mp hk
  match k, hk with
  | 0, _ => exact gx_mu (gx_t_1 (List.mem_of_getElem? (i := 222) rfl)) rfl
  | 1, _ => exact gx_mu (gx_t_1 (List.mem_of_getElem? (i := 224) rfl)) rfl
  | k + 2, hk => exact absurd hk (by omega)
theorem cls_X6 {ι : Nat → ClassId} {cl : List vw_C} {tys : List (ClassId × FieldType)} (hx : gx_std vwCl (gty ι) cl tys) : gx_cls cl 6 RX6 TX6 2 tyX6 := ⟨by rw [hx.1]; rfl, tyX6_ok, nmX6⟩
theorem iu_X7 : ∀ w ∈ u_ws RX7 TX7 15, w ∈ gx_U := by
  intro w hw
  obtain ⟨k, hk, rfl⟩ := List.mem_map.mp hw
  have hk := List.mem_range.mp hk
  match k, hk with
  | 0, _ => exact gx_mu (gx_t_2 (List.mem_of_getElem? (i := 57) rfl)) rfl
  | 1, _ => exact gx_mu (gx_t_2 (List.mem_of_getElem? (i := 59) rfl)) rfl
  | 2, _ => exact gx_mu (gx_t_2 (List.mem_of_getElem? (i := 61) rfl)) rfl
  | 3, _ => exact gx_mu (gx_t_2 (List.mem_of_getElem? (i := 63) rfl)) rfl
  | 4, _ => exact gx_mu (gx_t_2 (List.mem_of_getElem? (i := 65) rfl)) rfl
  | 5, _ => exact gx_mu (gx_t_2 (List.mem_of_getElem? (i := 67) rfl)) rfl
  | 6, _ => exact gx_mu (gx_t_2 (List.mem_of_getElem? (i := 69) rfl)) rfl
  | 7, _ => exact gx_mu (gx_t_2 (List.mem_of_getElem? (i := 71) rfl)) rfl
  | 8, _ => exact gx_mu (gx_t_2 (List.mem_of_getElem? (i := 73) rfl)) rfl
  | 9, _ => exact gx_mu (gx_t_2 (List.mem_of_getElem? (i := 75) rfl)) rfl
  | 10, _ => exact gx_mu (gx_t_2 (List.mem_of_getElem? (i := 77) rfl)) rfl
  | 11, _ => exact gx_mu (gx_t_2 (List.mem_of_getElem? (i := 79) rfl)) rfl
  | 12, _ => exact gx_mu (gx_t_2 (List.mem_of_getElem? (i := 81) rfl)) rfl
  | 13, _ => exact gx_mu (gx_t_2 (List.mem_of_getElem? (i := 83) rfl)) rfl
  | 14, _ => exact gx_mu (gx_t_2 (List.mem_of_getElem? (i := 85) rfl)) rfl
  | k + 15, hk => exact absurd hk (by omega)
theorem cls_X7 {ι : Nat → ClassId} {cl : List vw_C} {tys : List (ClassId × FieldType)} (hx : gx_std vwCl (gty ι) cl tys) : gx_cls cl 7 RX7 TX7 15 tyX7 := ⟨by rw [hx.1]; rfl, tyX7_ok, nmX7⟩
theorem iu_X8 : ∀ w ∈ u_ws RX8 TX8 42, w ∈ gx_U := by
  intro w hw
  obtain ⟨k, hk, rfl⟩ := List.mem_map.mp hw
  have hk := List.mem_range.mp hk
  match k, hk with
  | 0, _ => exact gx_mu (gx_t_4 (List.mem_of_getElem? (i := 131) rfl)) rfl
  | 1, _ => exact gx_mu (gx_t_4 (List.mem_of_getElem? (i := 133) rfl)) rfl
  | 2, _ => exact gx_mu (gx_t_4 (List.mem_of_getElem? (i := 135) rfl)) rfl
  | 3, _ => exact gx_mu (gx_t_4 (List.mem_of_getElem? (i := 137) rfl)) rfl
  | 4, _ => exact gx_mu (gx_t_4 (List.mem_of_getElem? (i := 139) rfl)) rfl
  | 5, _ => exact gx_mu (gx_t_4 (List.mem_of_getElem? (i := 141) rfl)) rfl
  | 6, _ => exact gx_mu (gx_t_4 (List.mem_of_getElem? (i := 143) rfl)) rfl
  | 7, _ => exact gx_mu (gx_t_4 (List.mem_of_getElem? (i := 145) rfl)) rfl
  | 8, _ => exact gx_mu (gx_t_4 (List.mem_of_getElem? (i := 147) rfl)) rfl
  | 9, _ => exact gx_mu (gx_t_4 (List.mem_of_getElem? (i := 149) rfl)) rfl
  | 10, _ => exact gx_mu (gx_t_4 (List.mem_of_getElem? (i := 151) rfl)) rfl
  | 11, _ => exact gx_mu (gx_t_4 (List.mem_of_getElem? (i := 153) rfl)) rfl
  | 12, _ => exact gx_mu (gx_t_4 (List.mem_of_getElem? (i := 155) rfl)) rfl
  | 13, _ => exact gx_mu (gx_t_4 (List.mem_of_getElem? (i := 157) rfl)) rfl
  | 14, _ => exact gx_mu (gx_t_4 (List.mem_of_getElem? (i := 159) rfl)) rfl
  | 15, _ => exact gx_mu (gx_t_4 (List.mem_of_getElem? (i := 161) rfl)) rfl
  | 16, _ => exact gx_mu (gx_t_4 (List.mem_of_getElem? (i := 163) rfl)) rfl
  | 17, _ => exact gx_mu (gx_t_4 (List.mem_of_getElem? (i := 165) rfl)) rfl
  | 18, _ => exact gx_mu (gx_t_4 (List.mem_of_getElem? (i := 167) rfl)) rfl
  | 19, _ => exact gx_mu (gx_t_4 (List.mem_of_getElem? (i := 169) rfl)) rfl
  | 20, _ => exact gx_mu (gx_t_4 (List.mem_of_getElem? (i := 171) rfl)) rfl
  | 21, _ => exact gx_mu (gx_t_4 (List.mem_of_getElem? (i := 173) rfl)) rfl
  | 22, _ => exact gx_mu (gx_t_4 (List.mem_of_getElem? (i := 175) rfl)) rfl
  | 23, _ => exact gx_mu (gx_t_4 (List.mem_of_getElem? (i := 177) rfl)) rfl
  | 24, _ => exact gx_mu (gx_t_4 (List.mem_of_getElem? (i := 179) rfl)) rfl
  | 25, _ => exact gx_mu (gx_t_4 (List.mem_of_getElem? (i := 181) rfl)) rfl
  | 26, _ => exact gx_mu (gx_t_4 (List.mem_of_getElem? (i := 183) rfl)) rfl
  | 27, _ => exact gx_mu (gx_t_4 (List.mem_of_getElem? (i := 185) rfl)) rfl
  | 28, _ => exact gx_mu (gx_t_4 (List.mem_of_getElem? (i := 187) rfl)) rfl
  | 29, _ => exact gx_mu (gx_t_4 (List.mem_of_getElem? (i := 189) rfl)) rfl
  | 30, _ => exact gx_mu (gx_t_4 (List.mem_of_getElem? (i := 191) rfl)) rfl
  | 31, _ => exact gx_mu (gx_t_4 (List.mem_of_getElem? (i := 193) rfl)) rfl
  | 32, _ => exact gx_mu (gx_t_4 (List.mem_of_getElem? (i := 195) rfl)) rfl
  | 33, _ => exact gx_mu (gx_t_4 (List.mem_of_getElem? (i := 197) rfl)) rfl
  | 34, _ => exact gx_mu (gx_t_4 (List.mem_of_getElem? (i := 199) rfl)) rfl
  | 35, _ => exact gx_mu (gx_t_4 (List.mem_of_getElem? (i := 201) rfl)) rfl
  | 36, _ => exact gx_mu (gx_t_4 (List.mem_of_getElem? (i := 203) rfl)) rfl
  | 37, _ => exact gx_mu (gx_t_4 (List.mem_of_getElem? (i := 205) rfl)) rfl
  | 38, _ => exact gx_mu (gx_t_4 (List.mem_of_getElem? (i := 207) rfl)) rfl
  | 39, _ => exact gx_mu (gx_t_4 (List.mem_of_getElem? (i := 209) rfl)) rfl
  | 40, _ => exact gx_mu (gx_t_4 (List.mem_of_getElem? (i := 211) rfl)) rfl
  | 41, _ => exact gx_mu (gx_t_4 (List.mem_of_getElem? (i := 213) rfl)) rfl
  | k + 42, hk => exact absurd hk (by omega)
theorem cls_X8 {ι : Nat → ClassId} {cl : List vw_C} {tys : List (ClassId × FieldType)} (hx : gx_std vwCl (gty ι) cl tys) : gx_cls cl 8 RX8 TX8 42 tyX8 := ⟨by rw [hx.1]; rfl, tyX8_ok, nmX8⟩
theorem fl_X5_9 : gx_fl gx_U RX5 9 RX5 TX5 14 3 := ⟨iu_X5, by decide, gx_mu (gx_t_1 (List.mem_of_getElem? (i := 44) rfl)) rfl, rfl⟩
theorem fl_X5_21 : gx_fl gx_U RX5 21 RX5 TX5 14 6 := ⟨iu_X5, by decide, gx_mu (gx_t_1 (List.mem_of_getElem? (i := 55) rfl)) rfl, rfl⟩
theorem fl_X5_15 : gx_fl gx_U RX5 15 RX5 TX5 14 4 := ⟨iu_X5, by decide, gx_mu (gx_t_1 (List.mem_of_getElem? (i := 48) rfl)) rfl, rfl⟩
theorem wc_J9_max_7cf53 : Cond.code yJ9_max_7cf53 cJ9_max_7cf53 2 ((Option.some Jvm.ClassFile.FieldType.int)) ∈ gx_U := gx_mu (gx_t_2 (List.mem_of_getElem? (i := 210) rfl)) rfl
theorem wi_J9 : Cond.initialized RJ9 ∈ gx_U := gx_mu (gx_t_1 (List.mem_of_getElem? (i := 11) rfl)) rfl
theorem wt_J9_max_7cf53 : Cond.static yJ9_max_7cf53 ∈ gx_U := gx_mu (gx_t_2 (List.mem_of_getElem? (i := 209) rfl)) rfl
theorem lk_X5_67 : gx_lkS gx_U RX5 67 yJ9_max_7cf53 cJ9_max_7cf53 2 ((Option.some Jvm.ClassFile.FieldType.int)) 2 := ⟨gx_mu (gx_t_2 (List.mem_of_getElem? (i := 208) rfl)) rfl, wt_J9_max_7cf53, wi_J9, wc_J9_max_7cf53, by decide +kernel, by decide +kernel, by decide +kernel⟩
theorem fl_X0_59 : gx_fl gx_U RX0 59 RX0 TX0 13 5 := ⟨iu_X0, by decide, gx_mu (gx_t_1 (List.mem_of_getElem? (i := 149) rfl)) rfl, rfl⟩
theorem fl_X0_41 : gx_fl gx_U RX0 41 RX0 TX0 13 0 := ⟨iu_X0, by decide, gx_mu (gx_t_1 (List.mem_of_getElem? (i := 144) rfl)) rfl, rfl⟩
theorem fl_X0_102 : gx_fl gx_U RX0 102 RX5 TX5 14 1 := ⟨iu_X5, by decide, gx_mu (gx_t_1 (List.mem_of_getElem? (i := 35) rfl)) rfl, rfl⟩
theorem fl_X0_105 : gx_fl gx_U RX0 105 RX4 TX4 4 2 := ⟨iu_X4, by decide, gx_mu (gx_t_1 (List.mem_of_getElem? (i := 122) rfl)) rfl, rfl⟩
theorem fl_X0_9 : gx_fl gx_U RX0 9 RX0 TX0 13 1 := ⟨iu_X0, by decide, gx_mu (gx_t_1 (List.mem_of_getElem? (i := 145) rfl)) rfl, rfl⟩
theorem fl_X0_15 : gx_fl gx_U RX0 15 RX0 TX0 13 2 := ⟨iu_X0, by decide, gx_mu (gx_t_1 (List.mem_of_getElem? (i := 146) rfl)) rfl, rfl⟩
theorem wc_X5_costTo : Cond.code yX5_costTo cX5_costTo 3 ((Option.some Jvm.ClassFile.FieldType.int)) ∈ gx_U := gx_mu (gx_t_2 (List.mem_of_getElem? (i := 207) rfl)) rfl
theorem wi_X5 : Cond.initialized RX5 ∈ gx_U := gx_mu (gx_t_1 (List.mem_of_getElem? (i := 2) rfl)) rfl
theorem wn_X5_costTo : Cond.instanceMethod yX5_costTo ∈ gx_U := gx_mu (gx_t_2 (List.mem_of_getElem? (i := 205) rfl)) rfl
theorem ws_X5_costTo : Cond.selects RX5 yX5_costTo yX5_costTo ∈ gx_U := gx_mu (gx_t_2 (List.mem_of_getElem? (i := 206) rfl)) rfl
theorem lk_X0_108 : gx_lk gx_U RX0 108 RX5 yX5_costTo cX5_costTo 3 ((Option.some Jvm.ClassFile.FieldType.int)) 2 := ⟨gx_mu (gx_t_2 (List.mem_of_getElem? (i := 223) rfl)) rfl, wn_X5_costTo, ws_X5_costTo, wi_X5, wc_X5_costTo, rfl, by decide +kernel, by decide +kernel, by decide +kernel⟩
theorem fl_X0_21 : gx_fl gx_U RX0 21 RX0 TX0 13 4 := ⟨iu_X0, by decide, gx_mu (gx_t_1 (List.mem_of_getElem? (i := 148) rfl)) rfl, rfl⟩
theorem fl_X0_62 : gx_fl gx_U RX0 62 RX4 TX4 4 1 := ⟨iu_X4, by decide, gx_mu (gx_t_1 (List.mem_of_getElem? (i := 117) rfl)) rfl, rfl⟩
theorem fl_X4_9 : gx_fl gx_U RX4 9 RX4 TX4 4 1 := ⟨iu_X4, by decide, gx_mu (gx_t_1 (List.mem_of_getElem? (i := 116) rfl)) rfl, rfl⟩
theorem fl_X4_22 : gx_fl gx_U RX4 22 RX4 TX4 4 0 := ⟨iu_X4, by decide, gx_mu (gx_t_1 (List.mem_of_getElem? (i := 115) rfl)) rfl, rfl⟩
theorem fl_X4_56 : gx_fl gx_U RX4 56 RX5 TX5 14 13 := ⟨iu_X5, by decide, gx_mu (gx_t_1 (List.mem_of_getElem? (i := 77) rfl)) rfl, rfl⟩
theorem fl_X4_15 : gx_fl gx_U RX4 15 RX4 TX4 4 2 := ⟨iu_X4, by decide, gx_mu (gx_t_1 (List.mem_of_getElem? (i := 119) rfl)) rfl, rfl⟩
theorem fl_X4_41 : gx_fl gx_U RX4 41 RX5 TX5 14 3 := ⟨iu_X5, by decide, gx_mu (gx_t_1 (List.mem_of_getElem? (i := 47) rfl)) rfl, rfl⟩
theorem fl_X4_18 : gx_fl gx_U RX4 18 RX4 TX4 4 3 := ⟨iu_X4, by decide, gx_mu (gx_t_1 (List.mem_of_getElem? (i := 124) rfl)) rfl, rfl⟩
theorem fl_X4_60 : gx_fl gx_U RX4 60 RX5 TX5 14 10 := ⟨iu_X5, by decide, gx_mu (gx_t_1 (List.mem_of_getElem? (i := 70) rfl)) rfl, rfl⟩
theorem fl_X4_26 : gx_fl gx_U RX4 26 RX5 TX5 14 1 := ⟨iu_X5, by decide, gx_mu (gx_t_1 (List.mem_of_getElem? (i := 33) rfl)) rfl, rfl⟩
theorem wc_X4_whatIs : Cond.code yX4_whatIs cX4_whatIs 3 ((Option.some Jvm.ClassFile.FieldType.int)) ∈ gx_U := gx_mu (gx_t_2 (List.mem_of_getElem? (i := 159) rfl)) rfl
theorem wi_X4 : Cond.initialized RX4 ∈ gx_U := gx_mu (gx_t_1 (List.mem_of_getElem? (i := 3) rfl)) rfl
theorem wn_X4_whatIs : Cond.instanceMethod yX4_whatIs ∈ gx_U := gx_mu (gx_t_2 (List.mem_of_getElem? (i := 157) rfl)) rfl
theorem ws_X4_whatIs : Cond.selects RX4 yX4_whatIs yX4_whatIs ∈ gx_U := gx_mu (gx_t_2 (List.mem_of_getElem? (i := 158) rfl)) rfl
theorem lk_X4_63 : gx_lk gx_U RX4 63 RX4 yX4_whatIs cX4_whatIs 3 ((Option.some Jvm.ClassFile.FieldType.int)) 2 := ⟨gx_mu (gx_t_2 (List.mem_of_getElem? (i := 156) rfl)) rfl, wn_X4_whatIs, ws_X4_whatIs, wi_X4, wc_X4_whatIs, rfl, by decide +kernel, by decide +kernel, by decide +kernel⟩
theorem wc_X4_isOpen : Cond.code yX4_isOpen cX4_isOpen 3 ((Option.some Jvm.ClassFile.FieldType.boolean)) ∈ gx_U := gx_mu (gx_t_2 (List.mem_of_getElem? (i := 147) rfl)) rfl
theorem wn_X4_isOpen : Cond.instanceMethod yX4_isOpen ∈ gx_U := gx_mu (gx_t_2 (List.mem_of_getElem? (i := 145) rfl)) rfl
theorem ws_X4_isOpen : Cond.selects RX4 yX4_isOpen yX4_isOpen ∈ gx_U := gx_mu (gx_t_2 (List.mem_of_getElem? (i := 146) rfl)) rfl
theorem lk_X4_44 : gx_lk gx_U RX4 44 RX4 yX4_isOpen cX4_isOpen 3 ((Option.some Jvm.ClassFile.FieldType.boolean)) 1 := ⟨gx_mu (gx_t_2 (List.mem_of_getElem? (i := 160) rfl)) rfl, wn_X4_isOpen, ws_X4_isOpen, wi_X4, wc_X4_isOpen, rfl, by decide +kernel, by decide +kernel, by decide +kernel⟩
theorem fl_X4_70 : gx_fl gx_U RX4 70 RX5 TX5 14 2 := ⟨iu_X5, by decide, gx_mu (gx_t_1 (List.mem_of_getElem? (i := 42) rfl)) rfl, rfl⟩
theorem wc_X4_choice : Cond.code yX4_choice cX4_choice 7 ((Option.some Jvm.ClassFile.FieldType.int)) ∈ gx_U := gx_mu (gx_t_2 (List.mem_of_getElem? (i := 155) rfl)) rfl
theorem wn_X4_choice : Cond.instanceMethod yX4_choice ∈ gx_U := gx_mu (gx_t_2 (List.mem_of_getElem? (i := 153) rfl)) rfl
theorem ws_X4_choice : Cond.selects RX4 yX4_choice yX4_choice ∈ gx_U := gx_mu (gx_t_2 (List.mem_of_getElem? (i := 154) rfl)) rfl
theorem lk_X4_67 : gx_lk gx_U RX4 67 RX4 yX4_choice cX4_choice 7 ((Option.some Jvm.ClassFile.FieldType.int)) 2 := ⟨gx_mu (gx_t_2 (List.mem_of_getElem? (i := 152) rfl)) rfl, wn_X4_choice, ws_X4_choice, wi_X4, wc_X4_choice, rfl, by decide +kernel, by decide +kernel, by decide +kernel⟩
theorem fl_X4_73 : gx_fl gx_U RX4 73 RX5 TX5 14 8 := ⟨iu_X5, by decide, gx_mu (gx_t_1 (List.mem_of_getElem? (i := 64) rfl)) rfl, rfl⟩
theorem lk_X4_76 : gx_lk gx_U RX4 76 RX5 yX5_costTo cX5_costTo 3 ((Option.some Jvm.ClassFile.FieldType.int)) 2 := ⟨gx_mu (gx_t_2 (List.mem_of_getElem? (i := 204) rfl)) rfl, wn_X5_costTo, ws_X5_costTo, wi_X5, wc_X5_costTo, rfl, by decide +kernel, by decide +kernel, by decide +kernel⟩
theorem fl_X0_112 : gx_fl gx_U RX0 112 RX5 TX5 14 2 := ⟨iu_X5, by decide, gx_mu (gx_t_1 (List.mem_of_getElem? (i := 41) rfl)) rfl, rfl⟩
theorem fl_X0_26 : gx_fl gx_U RX0 26 RX0 TX0 13 6 := ⟨iu_X0, by decide, gx_mu (gx_t_1 (List.mem_of_getElem? (i := 150) rfl)) rfl, rfl⟩
theorem fl_X0_115 : gx_fl gx_U RX0 115 RX5 TX5 14 10 := ⟨iu_X5, by decide, gx_mu (gx_t_1 (List.mem_of_getElem? (i := 69) rfl)) rfl, rfl⟩
theorem fl_X0_29 : gx_fl gx_U RX0 29 RX0 TX0 13 7 := ⟨iu_X0, by decide, gx_mu (gx_t_1 (List.mem_of_getElem? (i := 151) rfl)) rfl, rfl⟩
theorem fl_X0_32 : gx_fl gx_U RX0 32 RX0 TX0 13 8 := ⟨iu_X0, by decide, gx_mu (gx_t_1 (List.mem_of_getElem? (i := 152) rfl)) rfl, rfl⟩
theorem lk_X0_118 : gx_lk gx_U RX0 118 RX4 yX4_whatIs cX4_whatIs 3 ((Option.some Jvm.ClassFile.FieldType.int)) 2 := ⟨gx_mu (gx_t_2 (List.mem_of_getElem? (i := 230) rfl)) rfl, wn_X4_whatIs, ws_X4_whatIs, wi_X4, wc_X4_whatIs, rfl, by decide +kernel, by decide +kernel, by decide +kernel⟩
theorem lk_X0_121 : gx_lk gx_U RX0 121 RX4 yX4_isOpen cX4_isOpen 3 ((Option.some Jvm.ClassFile.FieldType.boolean)) 1 := ⟨gx_mu (gx_t_2 (List.mem_of_getElem? (i := 231) rfl)) rfl, wn_X4_isOpen, ws_X4_isOpen, wi_X4, wc_X4_isOpen, rfl, by decide +kernel, by decide +kernel, by decide +kernel⟩
theorem fl_X0_141 : gx_fl gx_U RX0 141 RX5 TX5 14 13 := ⟨iu_X5, by decide, gx_mu (gx_t_1 (List.mem_of_getElem? (i := 78) rfl)) rfl, rfl⟩
theorem fl_X0_18 : gx_fl gx_U RX0 18 RX0 TX0 13 3 := ⟨iu_X0, by decide, gx_mu (gx_t_1 (List.mem_of_getElem? (i := 147) rfl)) rfl, rfl⟩
theorem wc_X0_highestFor : Cond.code yX0_highestFor cX0_highestFor 5 ((Option.some Jvm.ClassFile.FieldType.int)) ∈ gx_U := gx_mu (gx_t_3 (List.mem_of_getElem? (i := 3) rfl)) rfl
theorem wi_X0 : Cond.initialized RX0 ∈ gx_U := gx_mu (gx_t_1 (List.mem_of_getElem? (i := 4) rfl)) rfl
theorem wn_X0_highestFor : Cond.instanceMethod yX0_highestFor ∈ gx_U := gx_mu (gx_t_3 (List.mem_of_getElem? (i := 2) rfl)) rfl
theorem ws_X0_highestFor : Cond.selects RX0 yX0_highestFor yX0_highestFor ∈ gx_U := gx_mu (gx_t_p (List.mem_of_getElem? (i := 8) rfl)) rfl
theorem lk_X0_138 : gx_lk gx_U RX0 138 RX0 yX0_highestFor cX0_highestFor 5 ((Option.some Jvm.ClassFile.FieldType.int)) 2 := ⟨gx_mu (gx_t_3 (List.mem_of_getElem? (i := 0) rfl)) rfl, wn_X0_highestFor, ws_X0_highestFor, wi_X0, wc_X0_highestFor, rfl, by decide +kernel, by decide +kernel, by decide +kernel⟩
theorem fl_X0_85 : gx_fl gx_U RX0 85 RX0 TX0 13 11 := ⟨iu_X0, by decide, gx_mu (gx_t_1 (List.mem_of_getElem? (i := 155) rfl)) rfl, rfl⟩
theorem wc_X0_putPrice : Cond.code yX0_putPrice cX0_putPrice 6 ((Option.none : Option Jvm.ClassFile.FieldType)) ∈ gx_U := gx_mu (gx_t_2 (List.mem_of_getElem? (i := 239) rfl)) rfl
theorem wn_X0_putPrice : Cond.instanceMethod yX0_putPrice ∈ gx_U := gx_mu (gx_t_2 (List.mem_of_getElem? (i := 238) rfl)) rfl
theorem ws_X0_putPrice : Cond.selects RX0 yX0_putPrice yX0_putPrice ∈ gx_U := gx_mu (gx_t_p (List.mem_of_getElem? (i := 7) rfl)) rfl
theorem lk_X0_125 : gx_lk gx_U RX0 125 RX0 yX0_putPrice cX0_putPrice 6 ((Option.none : Option Jvm.ClassFile.FieldType)) 2 := ⟨gx_mu (gx_t_2 (List.mem_of_getElem? (i := 236) rfl)) rfl, wn_X0_putPrice, ws_X0_putPrice, wi_X0, wc_X0_putPrice, rfl, by decide +kernel, by decide +kernel, by decide +kernel⟩
theorem fl_X0_129 : gx_fl gx_U RX0 129 RX5 TX5 14 8 := ⟨iu_X5, by decide, gx_mu (gx_t_1 (List.mem_of_getElem? (i := 63) rfl)) rfl, rfl⟩
theorem wc_X0_keepIfBetter : Cond.code yX0_keepIfBetter cX0_keepIfBetter 3 ((Option.none : Option Jvm.ClassFile.FieldType)) ∈ gx_U := gx_mu (gx_t_3 (List.mem_of_getElem? (i := 7) rfl)) rfl
theorem wn_X0_keepIfBetter : Cond.instanceMethod yX0_keepIfBetter ∈ gx_U := gx_mu (gx_t_3 (List.mem_of_getElem? (i := 6) rfl)) rfl
theorem ws_X0_keepIfBetter : Cond.selects RX0 yX0_keepIfBetter yX0_keepIfBetter ∈ gx_U := gx_mu (gx_t_p (List.mem_of_getElem? (i := 9) rfl)) rfl
theorem lk_X0_132 : gx_lk gx_U RX0 132 RX0 yX0_keepIfBetter cX0_keepIfBetter 3 ((Option.none : Option Jvm.ClassFile.FieldType)) 1 := ⟨gx_mu (gx_t_3 (List.mem_of_getElem? (i := 4) rfl)) rfl, wn_X0_keepIfBetter, ws_X0_keepIfBetter, wi_X0, wc_X0_keepIfBetter, rfl, by decide +kernel, by decide +kernel, by decide +kernel⟩
theorem fl_X0_35 : gx_fl gx_U RX0 35 RX0 TX0 13 9 := ⟨iu_X0, by decide, gx_mu (gx_t_1 (List.mem_of_getElem? (i := 153) rfl)) rfl, rfl⟩
theorem fl_X0_38 : gx_fl gx_U RX0 38 RX0 TX0 13 10 := ⟨iu_X0, by decide, gx_mu (gx_t_1 (List.mem_of_getElem? (i := 154) rfl)) rfl, rfl⟩
theorem wc_J9_min_7cf53 : Cond.code yJ9_min_7cf53 cJ9_min_7cf53 2 ((Option.some Jvm.ClassFile.FieldType.int)) ∈ gx_U := gx_mu (gx_t_3 (List.mem_of_getElem? (i := 18) rfl)) rfl
theorem wt_J9_min_7cf53 : Cond.static yJ9_min_7cf53 ∈ gx_U := gx_mu (gx_t_3 (List.mem_of_getElem? (i := 17) rfl)) rfl
theorem lk_X0_144 : gx_lkS gx_U RX0 144 yJ9_min_7cf53 cJ9_min_7cf53 2 ((Option.some Jvm.ClassFile.FieldType.int)) 2 := ⟨gx_mu (gx_t_3 (List.mem_of_getElem? (i := 16) rfl)) rfl, wt_J9_min_7cf53, wi_J9, wc_J9_min_7cf53, by decide +kernel, by decide +kernel, by decide +kernel⟩
theorem wc_X0_tryLastPrice : Cond.code yX0_tryLastPrice cX0_tryLastPrice 7 ((Option.none : Option Jvm.ClassFile.FieldType)) ∈ gx_U := gx_mu (gx_t_3 (List.mem_of_getElem? (i := 15) rfl)) rfl
theorem wn_X0_tryLastPrice : Cond.instanceMethod yX0_tryLastPrice ∈ gx_U := gx_mu (gx_t_3 (List.mem_of_getElem? (i := 14) rfl)) rfl
theorem ws_X0_tryLastPrice : Cond.selects RX0 yX0_tryLastPrice yX0_tryLastPrice ∈ gx_U := gx_mu (gx_t_p (List.mem_of_getElem? (i := 11) rfl)) rfl
theorem lk_X0_135 : gx_lk gx_U RX0 135 RX0 yX0_tryLastPrice cX0_tryLastPrice 7 ((Option.none : Option Jvm.ClassFile.FieldType)) 1 := ⟨gx_mu (gx_t_3 (List.mem_of_getElem? (i := 12) rfl)) rfl, wn_X0_tryLastPrice, ws_X0_tryLastPrice, wi_X0, wc_X0_tryLastPrice, rfl, by decide +kernel, by decide +kernel, by decide +kernel⟩
theorem wc_X0_tryPrices : Cond.code yX0_tryPrices cX0_tryPrices 3 ((Option.none : Option Jvm.ClassFile.FieldType)) ∈ gx_U := gx_mu (gx_t_3 (List.mem_of_getElem? (i := 11) rfl)) rfl
theorem wn_X0_tryPrices : Cond.instanceMethod yX0_tryPrices ∈ gx_U := gx_mu (gx_t_3 (List.mem_of_getElem? (i := 10) rfl)) rfl
theorem ws_X0_tryPrices : Cond.selects RX0 yX0_tryPrices yX0_tryPrices ∈ gx_U := gx_mu (gx_t_p (List.mem_of_getElem? (i := 10) rfl)) rfl
theorem lk_X0_95 : gx_lk gx_U RX0 95 RX0 yX0_tryPrices cX0_tryPrices 3 ((Option.none : Option Jvm.ClassFile.FieldType)) 1 := ⟨gx_mu (gx_t_3 (List.mem_of_getElem? (i := 8) rfl)) rfl, wn_X0_tryPrices, ws_X0_tryPrices, wi_X0, wc_X0_tryPrices, rfl, by decide +kernel, by decide +kernel, by decide +kernel⟩
theorem wc_X0_listShops : Cond.code yX0_listShops cX0_listShops 4 ((Option.none : Option Jvm.ClassFile.FieldType)) ∈ gx_U := gx_mu (gx_t_2 (List.mem_of_getElem? (i := 222) rfl)) rfl
theorem wn_X0_listShops : Cond.instanceMethod yX0_listShops ∈ gx_U := gx_mu (gx_t_2 (List.mem_of_getElem? (i := 221) rfl)) rfl
theorem ws_X0_listShops : Cond.selects RX0 yX0_listShops yX0_listShops ∈ gx_U := gx_mu (gx_t_p (List.mem_of_getElem? (i := 4) rfl)) rfl
theorem lk_X0_75 : gx_lk gx_U RX0 75 RX0 yX0_listShops cX0_listShops 4 ((Option.none : Option Jvm.ClassFile.FieldType)) 2 := ⟨gx_mu (gx_t_2 (List.mem_of_getElem? (i := 219) rfl)) rfl, wn_X0_listShops, ws_X0_listShops, wi_X0, wc_X0_listShops, rfl, by decide +kernel, by decide +kernel, by decide +kernel⟩
theorem fl_X0_78 : gx_fl gx_U RX0 78 RX5 TX5 14 3 := ⟨iu_X5, by decide, gx_mu (gx_t_1 (List.mem_of_getElem? (i := 46) rfl)) rfl, rfl⟩
theorem fl_X0_71 : gx_fl gx_U RX0 71 RX0 TX0 13 12 := ⟨iu_X0, by decide, gx_mu (gx_t_1 (List.mem_of_getElem? (i := 157) rfl)) rfl, rfl⟩
theorem wc_X4_profitOf : Cond.code yX4_profitOf cX4_profitOf 5 ((Option.some Jvm.ClassFile.FieldType.int)) ∈ gx_U := gx_mu (gx_t_2 (List.mem_of_getElem? (i := 203) rfl)) rfl
theorem wn_X4_profitOf : Cond.instanceMethod yX4_profitOf ∈ gx_U := gx_mu (gx_t_2 (List.mem_of_getElem? (i := 201) rfl)) rfl
theorem ws_X4_profitOf : Cond.selects RX4 yX4_profitOf yX4_profitOf ∈ gx_U := gx_mu (gx_t_2 (List.mem_of_getElem? (i := 202) rfl)) rfl
theorem lk_X0_81 : gx_lk gx_U RX0 81 RX4 yX4_profitOf cX4_profitOf 5 ((Option.some Jvm.ClassFile.FieldType.int)) 1 := ⟨gx_mu (gx_t_2 (List.mem_of_getElem? (i := 224) rfl)) rfl, wn_X4_profitOf, ws_X4_profitOf, wi_X4, wc_X4_profitOf, rfl, by decide +kernel, by decide +kernel, by decide +kernel⟩
theorem kX0_88 : Cond.constant RX0 88 (-1000000) ∈ gx_U := gx_mu (gx_t_2 (List.mem_of_getElem? (i := 225) rfl)) rfl
theorem wc_X0_layOthers : Cond.code yX0_layOthers cX0_layOthers 6 ((Option.none : Option Jvm.ClassFile.FieldType)) ∈ gx_U := gx_mu (gx_t_2 (List.mem_of_getElem? (i := 229) rfl)) rfl
theorem wn_X0_layOthers : Cond.instanceMethod yX0_layOthers ∈ gx_U := gx_mu (gx_t_2 (List.mem_of_getElem? (i := 228) rfl)) rfl
theorem ws_X0_layOthers : Cond.selects RX0 yX0_layOthers yX0_layOthers ∈ gx_U := gx_mu (gx_t_p (List.mem_of_getElem? (i := 5) rfl)) rfl
theorem lk_X0_89 : gx_lk gx_U RX0 89 RX0 yX0_layOthers cX0_layOthers 6 ((Option.none : Option Jvm.ClassFile.FieldType)) 2 := ⟨gx_mu (gx_t_2 (List.mem_of_getElem? (i := 226) rfl)) rfl, wn_X0_layOthers, ws_X0_layOthers, wi_X0, wc_X0_layOthers, rfl, by decide +kernel, by decide +kernel, by decide +kernel⟩
theorem wc_X0_tryOnePrice : Cond.code yX0_tryOnePrice cX0_tryOnePrice 4 ((Option.none : Option Jvm.ClassFile.FieldType)) ∈ gx_U := gx_mu (gx_t_2 (List.mem_of_getElem? (i := 235) rfl)) rfl
theorem wn_X0_tryOnePrice : Cond.instanceMethod yX0_tryOnePrice ∈ gx_U := gx_mu (gx_t_2 (List.mem_of_getElem? (i := 234) rfl)) rfl
theorem ws_X0_tryOnePrice : Cond.selects RX0 yX0_tryOnePrice yX0_tryOnePrice ∈ gx_U := gx_mu (gx_t_p (List.mem_of_getElem? (i := 6) rfl)) rfl
theorem lk_X0_92 : gx_lk gx_U RX0 92 RX0 yX0_tryOnePrice cX0_tryOnePrice 4 ((Option.none : Option Jvm.ClassFile.FieldType)) 0 := ⟨gx_mu (gx_t_2 (List.mem_of_getElem? (i := 232) rfl)) rfl, wn_X0_tryOnePrice, ws_X0_tryOnePrice, wi_X0, wc_X0_tryOnePrice, rfl, by decide +kernel, by decide +kernel, by decide +kernel⟩
theorem fl_X0_99 : gx_fl gx_U RX0 99 RX5 TX5 14 4 := ⟨iu_X5, by decide, gx_mu (gx_t_1 (List.mem_of_getElem? (i := 49) rfl)) rfl, rfl⟩
theorem fl_X0_67 : gx_fl gx_U RX0 67 RX4 TX4 4 3 := ⟨iu_X4, by decide, gx_mu (gx_t_1 (List.mem_of_getElem? (i := 125) rfl)) rfl, rfl⟩
theorem fl_X0_45 : gx_fl gx_U RX0 45 RX5 TX5 14 0 := ⟨iu_X5, by decide, gx_mu (gx_t_1 (List.mem_of_getElem? (i := 29) rfl)) rfl, rfl⟩
theorem wc_X0_look : Cond.code yX0_look cX0_look 4 ((Option.none : Option Jvm.ClassFile.FieldType)) ∈ gx_U := gx_mu (gx_t_2 (List.mem_of_getElem? (i := 218) rfl)) rfl
theorem wn_X0_look : Cond.instanceMethod yX0_look ∈ gx_U := gx_mu (gx_t_2 (List.mem_of_getElem? (i := 216) rfl)) rfl
theorem ws_X0_look : Cond.selects RX0 yX0_look yX0_look ∈ gx_U := gx_mu (gx_t_2 (List.mem_of_getElem? (i := 217) rfl)) rfl
theorem lk_X0_51 : gx_lk gx_U RX0 51 RX0 yX0_look cX0_look 4 ((Option.none : Option Jvm.ClassFile.FieldType)) 2 := ⟨gx_mu (gx_t_3 (List.mem_of_getElem? (i := 43) rfl)) rfl, wn_X0_look, ws_X0_look, wi_X0, wc_X0_look, rfl, by decide +kernel, by decide +kernel, by decide +kernel⟩
theorem wc_X0_take : Cond.code yX0_take cX0_take 5 ((Option.some Jvm.ClassFile.FieldType.int)) ∈ gx_U := gx_mu (gx_t_3 (List.mem_of_getElem? (i := 30) rfl)) rfl
theorem wn_X0_take : Cond.instanceMethod yX0_take ∈ gx_U := gx_mu (gx_t_3 (List.mem_of_getElem? (i := 28) rfl)) rfl
theorem ws_X0_take : Cond.selects RX0 yX0_take yX0_take ∈ gx_U := gx_mu (gx_t_3 (List.mem_of_getElem? (i := 29) rfl)) rfl
theorem lk_X0_55 : gx_lk gx_U RX0 55 RX0 yX0_take cX0_take 5 ((Option.some Jvm.ClassFile.FieldType.int)) 2 := ⟨gx_mu (gx_t_3 (List.mem_of_getElem? (i := 44) rfl)) rfl, wn_X0_take, ws_X0_take, wi_X0, wc_X0_take, rfl, by decide +kernel, by decide +kernel, by decide +kernel⟩
theorem fl_X6_15 : gx_fl gx_U RX6 15 RX6 TX6 2 1 := ⟨iu_X6, by decide, gx_mu (gx_t_1 (List.mem_of_getElem? (i := 218) rfl)) rfl, rfl⟩
theorem fl_X6_9 : gx_fl gx_U RX6 9 RX6 TX6 2 0 := ⟨iu_X6, by decide, gx_mu (gx_t_1 (List.mem_of_getElem? (i := 216) rfl)) rfl, rfl⟩
theorem fl_X1_13 : gx_fl gx_U RX1 13 RX1 TX1 3 1 := ⟨iu_X1, by decide, gx_mu (gx_t_1 (List.mem_of_getElem? (i := 236) rfl)) rfl, rfl⟩
theorem fl_X1_9 : gx_fl gx_U RX1 9 RX1 TX1 3 0 := ⟨iu_X1, by decide, gx_mu (gx_t_1 (List.mem_of_getElem? (i := 235) rfl)) rfl, rfl⟩
theorem wc_X6_isDigit : Cond.code yX6_isDigit cX6_isDigit 1 ((Option.some Jvm.ClassFile.FieldType.boolean)) ∈ gx_U := gx_mu (gx_t_3 (List.mem_of_getElem? (i := 207) rfl)) rfl
theorem wi_X6 : Cond.initialized RX6 ∈ gx_U := gx_mu (gx_t_1 (List.mem_of_getElem? (i := 6) rfl)) rfl
theorem wt_X6_isDigit : Cond.static yX6_isDigit ∈ gx_U := gx_mu (gx_t_3 (List.mem_of_getElem? (i := 206) rfl)) rfl
theorem lk_X1_45 : gx_lkS gx_U RX1 45 yX6_isDigit cX6_isDigit 1 ((Option.some Jvm.ClassFile.FieldType.boolean)) 1 := ⟨gx_mu (gx_t_3 (List.mem_of_getElem? (i := 205) rfl)) rfl, wt_X6_isDigit, wi_X6, wc_X6_isDigit, by decide +kernel, by decide +kernel, by decide +kernel⟩
theorem fl_X1_36 : gx_fl gx_U RX1 36 RX1 TX1 3 2 := ⟨iu_X1, by decide, gx_mu (gx_t_1 (List.mem_of_getElem? (i := 237) rfl)) rfl, rfl⟩
theorem wc_X1_takesFactor : Cond.code yX1_takesFactor cX1_takesFactor 2 ((Option.some Jvm.ClassFile.FieldType.boolean)) ∈ gx_U := gx_mu (gx_t_3 (List.mem_of_getElem? (i := 200) rfl)) rfl
theorem wi_X1 : Cond.initialized RX1 ∈ gx_U := gx_mu (gx_t_1 (List.mem_of_getElem? (i := 7) rfl)) rfl
theorem wn_X1_takesFactor : Cond.instanceMethod yX1_takesFactor ∈ gx_U := gx_mu (gx_t_3 (List.mem_of_getElem? (i := 199) rfl)) rfl
theorem ws_X1_takesFactor : Cond.selects RX1 yX1_takesFactor yX1_takesFactor ∈ gx_U := gx_mu (gx_t_p (List.mem_of_getElem? (i := 19) rfl)) rfl
theorem lk_X1_33 : gx_lk gx_U RX1 33 RX1 yX1_takesFactor cX1_takesFactor 2 ((Option.some Jvm.ClassFile.FieldType.boolean)) 1 := ⟨gx_mu (gx_t_3 (List.mem_of_getElem? (i := 197) rfl)) rfl, wn_X1_takesFactor, ws_X1_takesFactor, wi_X1, wc_X1_takesFactor, rfl, by decide +kernel, by decide +kernel, by decide +kernel⟩
theorem wc_X1_takesDigit : Cond.code yX1_takesDigit cX1_takesDigit 2 ((Option.some Jvm.ClassFile.FieldType.boolean)) ∈ gx_U := gx_mu (gx_t_3 (List.mem_of_getElem? (i := 204) rfl)) rfl
theorem wn_X1_takesDigit : Cond.instanceMethod yX1_takesDigit ∈ gx_U := gx_mu (gx_t_3 (List.mem_of_getElem? (i := 203) rfl)) rfl
theorem ws_X1_takesDigit : Cond.selects RX1 yX1_takesDigit yX1_takesDigit ∈ gx_U := gx_mu (gx_t_p (List.mem_of_getElem? (i := 20) rfl)) rfl
theorem lk_X1_39 : gx_lk gx_U RX1 39 RX1 yX1_takesDigit cX1_takesDigit 2 ((Option.some Jvm.ClassFile.FieldType.boolean)) 1 := ⟨gx_mu (gx_t_3 (List.mem_of_getElem? (i := 201) rfl)) rfl, wn_X1_takesDigit, ws_X1_takesDigit, wi_X1, wc_X1_takesDigit, rfl, by decide +kernel, by decide +kernel, by decide +kernel⟩
theorem wc_X1_takesBehind : Cond.code yX1_takesBehind cX1_takesBehind 2 ((Option.some Jvm.ClassFile.FieldType.boolean)) ∈ gx_U := gx_mu (gx_t_3 (List.mem_of_getElem? (i := 211) rfl)) rfl
theorem wn_X1_takesBehind : Cond.instanceMethod yX1_takesBehind ∈ gx_U := gx_mu (gx_t_3 (List.mem_of_getElem? (i := 210) rfl)) rfl
theorem ws_X1_takesBehind : Cond.selects RX1 yX1_takesBehind yX1_takesBehind ∈ gx_U := gx_mu (gx_t_p (List.mem_of_getElem? (i := 21) rfl)) rfl
theorem lk_X1_42 : gx_lk gx_U RX1 42 RX1 yX1_takesBehind cX1_takesBehind 2 ((Option.some Jvm.ClassFile.FieldType.boolean)) 1 := ⟨gx_mu (gx_t_3 (List.mem_of_getElem? (i := 208) rfl)) rfl, wn_X1_takesBehind, ws_X1_takesBehind, wi_X1, wc_X1_takesBehind, rfl, by decide +kernel, by decide +kernel, by decide +kernel⟩
theorem fl_X1_16 : gx_fl gx_U RX1 16 RX6 TX6 2 1 := ⟨iu_X6, by decide, gx_mu (gx_t_1 (List.mem_of_getElem? (i := 219) rfl)) rfl, rfl⟩
theorem wc_X6_at : Cond.code yX6_at cX6_at 2 ((Option.some Jvm.ClassFile.FieldType.char)) ∈ gx_U := gx_mu (gx_t_3 (List.mem_of_getElem? (i := 192) rfl)) rfl
theorem wn_X6_at : Cond.instanceMethod yX6_at ∈ gx_U := gx_mu (gx_t_3 (List.mem_of_getElem? (i := 190) rfl)) rfl
theorem ws_X6_at : Cond.selects RX6 yX6_at yX6_at ∈ gx_U := gx_mu (gx_t_3 (List.mem_of_getElem? (i := 191) rfl)) rfl
theorem lk_X1_21 : gx_lk gx_U RX1 21 RX6 yX6_at cX6_at 2 ((Option.some Jvm.ClassFile.FieldType.char)) 1 := ⟨gx_mu (gx_t_3 (List.mem_of_getElem? (i := 189) rfl)) rfl, wn_X6_at, ws_X6_at, wi_X6, wc_X6_at, rfl, by decide +kernel, by decide +kernel, by decide +kernel⟩
theorem wc_X1_takes : Cond.code yX1_takes cX1_takes 2 ((Option.some Jvm.ClassFile.FieldType.boolean)) ∈ gx_U := gx_mu (gx_t_3 (List.mem_of_getElem? (i := 196) rfl)) rfl
theorem wn_X1_takes : Cond.instanceMethod yX1_takes ∈ gx_U := gx_mu (gx_t_3 (List.mem_of_getElem? (i := 195) rfl)) rfl
theorem ws_X1_takes : Cond.selects RX1 yX1_takes yX1_takes ∈ gx_U := gx_mu (gx_t_p (List.mem_of_getElem? (i := 18) rfl)) rfl
theorem lk_X1_25 : gx_lk gx_U RX1 25 RX1 yX1_takes cX1_takes 2 ((Option.some Jvm.ClassFile.FieldType.boolean)) 1 := ⟨gx_mu (gx_t_3 (List.mem_of_getElem? (i := 193) rfl)) rfl, wn_X1_takes, ws_X1_takes, wi_X1, wc_X1_takes, rfl, by decide +kernel, by decide +kernel, by decide +kernel⟩
theorem wc_X1_firstFault : Cond.code yX1_firstFault cX1_firstFault 3 ((Option.some Jvm.ClassFile.FieldType.int)) ∈ gx_U := gx_mu (gx_t_3 (List.mem_of_getElem? (i := 188) rfl)) rfl
theorem wn_X1_firstFault : Cond.instanceMethod yX1_firstFault ∈ gx_U := gx_mu (gx_t_3 (List.mem_of_getElem? (i := 186) rfl)) rfl
theorem ws_X1_firstFault : Cond.selects RX1 yX1_firstFault yX1_firstFault ∈ gx_U := gx_mu (gx_t_3 (List.mem_of_getElem? (i := 187) rfl)) rfl
theorem lk_X1_29 : gx_lk gx_U RX1 29 RX1 yX1_firstFault cX1_firstFault 3 ((Option.some Jvm.ClassFile.FieldType.int)) 1 := ⟨gx_mu (gx_t_3 (List.mem_of_getElem? (i := 220) rfl)) rfl, wn_X1_firstFault, ws_X1_firstFault, wi_X1, wc_X1_firstFault, rfl, by decide +kernel, by decide +kernel, by decide +kernel⟩
theorem fl_X2_28 : gx_fl gx_U RX2 28 RX2 TX2 5 2 := ⟨iu_X2, by decide, gx_mu (gx_t_1 (List.mem_of_getElem? (i := 196) rfl)) rfl, rfl⟩
theorem wc_X4_become : Cond.code yX4_become cX4_become 3 ((Option.none : Option Jvm.ClassFile.FieldType)) ∈ gx_U := gx_mu (gx_t_3 (List.mem_of_getElem? (i := 38) rfl)) rfl
theorem wn_X4_become : Cond.instanceMethod yX4_become ∈ gx_U := gx_mu (gx_t_3 (List.mem_of_getElem? (i := 36) rfl)) rfl
theorem ws_X4_become : Cond.selects RX4 yX4_become yX4_become ∈ gx_U := gx_mu (gx_t_3 (List.mem_of_getElem? (i := 37) rfl)) rfl
theorem lk_X2_35 : gx_lk gx_U RX2 35 RX4 yX4_become cX4_become 3 ((Option.none : Option Jvm.ClassFile.FieldType)) 1 := ⟨gx_mu (gx_t_3 (List.mem_of_getElem? (i := 120) rfl)) rfl, wn_X4_become, ws_X4_become, wi_X4, wc_X4_become, rfl, by decide +kernel, by decide +kernel, by decide +kernel⟩
theorem fl_X2_19 : gx_fl gx_U RX2 19 RX2 TX2 5 1 := ⟨iu_X2, by decide, gx_mu (gx_t_1 (List.mem_of_getElem? (i := 195) rfl)) rfl, rfl⟩
theorem wc_X0_settle : Cond.code yX0_settle cX0_settle 5 ((Option.some Jvm.ClassFile.FieldType.int)) ∈ gx_U := gx_mu (gx_t_3 (List.mem_of_getElem? (i := 42) rfl)) rfl
theorem wn_X0_settle : Cond.instanceMethod yX0_settle ∈ gx_U := gx_mu (gx_t_3 (List.mem_of_getElem? (i := 40) rfl)) rfl
theorem ws_X0_settle : Cond.selects RX0 yX0_settle yX0_settle ∈ gx_U := gx_mu (gx_t_3 (List.mem_of_getElem? (i := 41) rfl)) rfl
theorem lk_X2_39 : gx_lk gx_U RX2 39 RX0 yX0_settle cX0_settle 5 ((Option.some Jvm.ClassFile.FieldType.int)) 1 := ⟨gx_mu (gx_t_3 (List.mem_of_getElem? (i := 121) rfl)) rfl, wn_X0_settle, ws_X0_settle, wi_X0, wc_X0_settle, rfl, by decide +kernel, by decide +kernel, by decide +kernel⟩
theorem fl_X2_15 : gx_fl gx_U RX2 15 RX2 TX2 5 0 := ⟨iu_X2, by decide, gx_mu (gx_t_1 (List.mem_of_getElem? (i := 194) rfl)) rfl, rfl⟩
theorem fl_X2_45 : gx_fl gx_U RX2 45 RX5 TX5 14 2 := ⟨iu_X5, by decide, gx_mu (gx_t_1 (List.mem_of_getElem? (i := 38) rfl)) rfl, rfl⟩
theorem fl_X2_9 : gx_fl gx_U RX2 9 RX2 TX2 5 4 := ⟨iu_X2, by decide, gx_mu (gx_t_1 (List.mem_of_getElem? (i := 198) rfl)) rfl, rfl⟩
theorem wc_X4_spareOf : Cond.code yX4_spareOf cX4_spareOf 3 ((Option.some Jvm.ClassFile.FieldType.int)) ∈ gx_U := gx_mu (gx_t_2 (List.mem_of_getElem? (i := 194) rfl)) rfl
theorem wn_X4_spareOf : Cond.instanceMethod yX4_spareOf ∈ gx_U := gx_mu (gx_t_2 (List.mem_of_getElem? (i := 192) rfl)) rfl
theorem ws_X4_spareOf : Cond.selects RX4 yX4_spareOf yX4_spareOf ∈ gx_U := gx_mu (gx_t_2 (List.mem_of_getElem? (i := 193) rfl)) rfl
theorem lk_X2_51 : gx_lk gx_U RX2 51 RX4 yX4_spareOf cX4_spareOf 3 ((Option.some Jvm.ClassFile.FieldType.int)) 1 := ⟨gx_mu (gx_t_3 (List.mem_of_getElem? (i := 122) rfl)) rfl, wn_X4_spareOf, ws_X4_spareOf, wi_X4, wc_X4_spareOf, rfl, by decide +kernel, by decide +kernel, by decide +kernel⟩
theorem fl_X2_32 : gx_fl gx_U RX2 32 RX2 TX2 5 3 := ⟨iu_X2, by decide, gx_mu (gx_t_1 (List.mem_of_getElem? (i := 197) rfl)) rfl, rfl⟩
theorem wc_X4_give : Cond.code yX4_give cX4_give 4 ((Option.none : Option Jvm.ClassFile.FieldType)) ∈ gx_U := gx_mu (gx_t_3 (List.mem_of_getElem? (i := 111) rfl)) rfl
theorem wn_X4_give : Cond.instanceMethod yX4_give ∈ gx_U := gx_mu (gx_t_3 (List.mem_of_getElem? (i := 109) rfl)) rfl
theorem ws_X4_give : Cond.selects RX4 yX4_give yX4_give ∈ gx_U := gx_mu (gx_t_3 (List.mem_of_getElem? (i := 110) rfl)) rfl
theorem lk_X2_55 : gx_lk gx_U RX2 55 RX4 yX4_give cX4_give 4 ((Option.none : Option Jvm.ClassFile.FieldType)) 2 := ⟨gx_mu (gx_t_3 (List.mem_of_getElem? (i := 127) rfl)) rfl, wn_X4_give, ws_X4_give, wi_X4, wc_X4_give, rfl, by decide +kernel, by decide +kernel, by decide +kernel⟩
theorem wc_X2_dearerFor : Cond.code yX2_dearerFor cX2_dearerFor 2 ((Option.some Jvm.ClassFile.FieldType.int)) ∈ gx_U := gx_mu (gx_t_3 (List.mem_of_getElem? (i := 131) rfl)) rfl
theorem wi_X2 : Cond.initialized RX2 ∈ gx_U := gx_mu (gx_t_1 (List.mem_of_getElem? (i := 5) rfl)) rfl
theorem wn_X2_dearerFor : Cond.instanceMethod yX2_dearerFor ∈ gx_U := gx_mu (gx_t_3 (List.mem_of_getElem? (i := 129) rfl)) rfl
theorem ws_X2_dearerFor : Cond.selects RX2 yX2_dearerFor yX2_dearerFor ∈ gx_U := gx_mu (gx_t_3 (List.mem_of_getElem? (i := 130) rfl)) rfl
theorem lk_X2_59 : gx_lk gx_U RX2 59 RX2 yX2_dearerFor cX2_dearerFor 2 ((Option.some Jvm.ClassFile.FieldType.int)) 1 := ⟨gx_mu (gx_t_3 (List.mem_of_getElem? (i := 140) rfl)) rfl, wn_X2_dearerFor, ws_X2_dearerFor, wi_X2, wc_X2_dearerFor, rfl, by decide +kernel, by decide +kernel, by decide +kernel⟩
theorem lk_X2_62 : gx_lkS gx_U RX2 62 yJ9_max_7cf53 cJ9_max_7cf53 2 ((Option.some Jvm.ClassFile.FieldType.int)) 2 := ⟨gx_mu (gx_t_3 (List.mem_of_getElem? (i := 141) rfl)) rfl, wt_J9_max_7cf53, wi_J9, wc_J9_max_7cf53, by decide +kernel, by decide +kernel, by decide +kernel⟩
theorem fl_X2_68 : gx_fl gx_U RX2 68 RX5 TX5 14 8 := ⟨iu_X5, by decide, gx_mu (gx_t_1 (List.mem_of_getElem? (i := 62) rfl)) rfl, rfl⟩
theorem wc_X2_harmInAll : Cond.code yX2_harmInAll cX2_harmInAll 3 ((Option.some Jvm.ClassFile.FieldType.int)) ∈ gx_U := gx_mu (gx_t_3 (List.mem_of_getElem? (i := 139) rfl)) rfl
theorem wn_X2_harmInAll : Cond.instanceMethod yX2_harmInAll ∈ gx_U := gx_mu (gx_t_3 (List.mem_of_getElem? (i := 137) rfl)) rfl
theorem ws_X2_harmInAll : Cond.selects RX2 yX2_harmInAll yX2_harmInAll ∈ gx_U := gx_mu (gx_t_3 (List.mem_of_getElem? (i := 138) rfl)) rfl
theorem lk_X2_71 : gx_lk gx_U RX2 71 RX2 yX2_harmInAll cX2_harmInAll 3 ((Option.some Jvm.ClassFile.FieldType.int)) 0 := ⟨gx_mu (gx_t_3 (List.mem_of_getElem? (i := 164) rfl)) rfl, wn_X2_harmInAll, ws_X2_harmInAll, wi_X2, wc_X2_harmInAll, rfl, by decide +kernel, by decide +kernel, by decide +kernel⟩
theorem fl_X2_75 : gx_fl gx_U RX2 75 RX5 TX5 14 1 := ⟨iu_X5, by decide, gx_mu (gx_t_1 (List.mem_of_getElem? (i := 36) rfl)) rfl, rfl⟩
theorem fl_X2_78 : gx_fl gx_U RX2 78 RX4 TX4 4 2 := ⟨iu_X4, by decide, gx_mu (gx_t_1 (List.mem_of_getElem? (i := 123) rfl)) rfl, rfl⟩
theorem kX2_81 : Cond.constant RX2 81 1000000 ∈ gx_U := gx_mu (gx_t_3 (List.mem_of_getElem? (i := 155) rfl)) rfl
theorem fl_X3_9 : gx_fl gx_U RX3 9 RX3 TX3 10 1 := ⟨iu_X3, by decide, gx_mu (gx_t_2 (List.mem_of_getElem? (i := 12) rfl)) rfl, rfl⟩
theorem fl_X3_25 : gx_fl gx_U RX3 25 RX3 TX3 10 0 := ⟨iu_X3, by decide, gx_mu (gx_t_2 (List.mem_of_getElem? (i := 11) rfl)) rfl, rfl⟩
theorem fl_X3_59 : gx_fl gx_U RX3 59 RX5 TX5 14 2 := ⟨iu_X5, by decide, gx_mu (gx_t_1 (List.mem_of_getElem? (i := 39) rfl)) rfl, rfl⟩
theorem lk_X3_62 : gx_lk gx_U RX3 62 RX4 yX4_choice cX4_choice 7 ((Option.some Jvm.ClassFile.FieldType.int)) 2 := ⟨gx_mu (gx_t_4 (List.mem_of_getElem? (i := 5) rfl)) rfl, wn_X4_choice, ws_X4_choice, wi_X4, wc_X4_choice, rfl, by decide +kernel, by decide +kernel, by decide +kernel⟩
theorem fl_X3_67 : gx_fl gx_U RX3 67 RX4 TX4 4 2 := ⟨iu_X4, by decide, gx_mu (gx_t_1 (List.mem_of_getElem? (i := 120) rfl)) rfl, rfl⟩
theorem fl_X3_70 : gx_fl gx_U RX3 70 RX5 TX5 14 8 := ⟨iu_X5, by decide, gx_mu (gx_t_1 (List.mem_of_getElem? (i := 61) rfl)) rfl, rfl⟩
theorem fl_X3_73 : gx_fl gx_U RX3 73 RX5 TX5 14 1 := ⟨iu_X5, by decide, gx_mu (gx_t_1 (List.mem_of_getElem? (i := 34) rfl)) rfl, rfl⟩
theorem lk_X3_76 : gx_lk gx_U RX3 76 RX4 yX4_isOpen cX4_isOpen 3 ((Option.some Jvm.ClassFile.FieldType.boolean)) 1 := ⟨gx_mu (gx_t_4 (List.mem_of_getElem? (i := 13) rfl)) rfl, wn_X4_isOpen, ws_X4_isOpen, wi_X4, wc_X4_isOpen, rfl, by decide +kernel, by decide +kernel, by decide +kernel⟩
theorem fl_X3_80 : gx_fl gx_U RX3 80 RX5 TX5 14 5 := ⟨iu_X5, by decide, gx_mu (gx_t_1 (List.mem_of_getElem? (i := 53) rfl)) rfl, rfl⟩
theorem wc_J9_abs_0f7a4 : Cond.code yJ9_abs_0f7a4 cJ9_abs_0f7a4 1 ((Option.some Jvm.ClassFile.FieldType.int)) ∈ gx_U := gx_mu (gx_t_2 (List.mem_of_getElem? (i := 135) rfl)) rfl
theorem wt_J9_abs_0f7a4 : Cond.static yJ9_abs_0f7a4 ∈ gx_U := gx_mu (gx_t_2 (List.mem_of_getElem? (i := 134) rfl)) rfl
theorem lk_X3_83 : gx_lkS gx_U RX3 83 yJ9_abs_0f7a4 cJ9_abs_0f7a4 1 ((Option.some Jvm.ClassFile.FieldType.int)) 1 := ⟨gx_mu (gx_t_4 (List.mem_of_getElem? (i := 14) rfl)) rfl, wt_J9_abs_0f7a4, wi_J9, wc_J9_abs_0f7a4, by decide +kernel, by decide +kernel, by decide +kernel⟩
theorem lk_X3_89 : gx_lkS gx_U RX3 89 yJ9_min_7cf53 cJ9_min_7cf53 2 ((Option.some Jvm.ClassFile.FieldType.int)) 2 := ⟨gx_mu (gx_t_4 (List.mem_of_getElem? (i := 15) rfl)) rfl, wt_J9_min_7cf53, wi_J9, wc_J9_min_7cf53, by decide +kernel, by decide +kernel, by decide +kernel⟩
theorem wc_X3_countSold : Cond.code yX3_countSold cX3_countSold 4 ((Option.none : Option Jvm.ClassFile.FieldType)) ∈ gx_U := gx_mu (gx_t_4 (List.mem_of_getElem? (i := 4) rfl)) rfl
theorem wi_X3 : Cond.initialized RX3 ∈ gx_U := gx_mu (gx_t_1 (List.mem_of_getElem? (i := 8) rfl)) rfl
theorem wn_X3_countSold : Cond.instanceMethod yX3_countSold ∈ gx_U := gx_mu (gx_t_4 (List.mem_of_getElem? (i := 3) rfl)) rfl
theorem ws_X3_countSold : Cond.selects RX3 yX3_countSold yX3_countSold ∈ gx_U := gx_mu (gx_t_p (List.mem_of_getElem? (i := 24) rfl)) rfl
theorem lk_X3_29 : gx_lk gx_U RX3 29 RX3 yX3_countSold cX3_countSold 4 ((Option.none : Option Jvm.ClassFile.FieldType)) 1 := ⟨gx_mu (gx_t_4 (List.mem_of_getElem? (i := 1) rfl)) rfl, wn_X3_countSold, ws_X3_countSold, wi_X3, wc_X3_countSold, rfl, by decide +kernel, by decide +kernel, by decide +kernel⟩
theorem fl_X3_33 : gx_fl gx_U RX3 33 RX3 TX3 10 7 := ⟨iu_X3, by decide, gx_mu (gx_t_2 (List.mem_of_getElem? (i := 18) rfl)) rfl, rfl⟩
theorem fl_X3_37 : gx_fl gx_U RX3 37 RX5 TX5 14 0 := ⟨iu_X5, by decide, gx_mu (gx_t_1 (List.mem_of_getElem? (i := 30) rfl)) rfl, rfl⟩
theorem wc_X3_hundredths : Cond.code yX3_hundredths cX3_hundredths 2 ((Option.some Jvm.ClassFile.FieldType.int)) ∈ gx_U := gx_mu (gx_t_4 (List.mem_of_getElem? (i := 8) rfl)) rfl
theorem wt_X3_hundredths : Cond.static yX3_hundredths ∈ gx_U := gx_mu (gx_t_4 (List.mem_of_getElem? (i := 7) rfl)) rfl
theorem lk_X3_42 : gx_lkS gx_U RX3 42 yX3_hundredths cX3_hundredths 2 ((Option.some Jvm.ClassFile.FieldType.int)) 2 := ⟨gx_mu (gx_t_4 (List.mem_of_getElem? (i := 6) rfl)) rfl, wt_X3_hundredths, wi_X3, wc_X3_hundredths, by decide +kernel, by decide +kernel, by decide +kernel⟩
theorem fl_X3_46 : gx_fl gx_U RX3 46 RX3 TX3 10 6 := ⟨iu_X3, by decide, gx_mu (gx_t_2 (List.mem_of_getElem? (i := 17) rfl)) rfl, rfl⟩
theorem fl_X3_49 : gx_fl gx_U RX3 49 RX3 TX3 10 8 := ⟨iu_X3, by decide, gx_mu (gx_t_2 (List.mem_of_getElem? (i := 19) rfl)) rfl, rfl⟩
theorem wc_X3_leastDistance : Cond.code yX3_leastDistance cX3_leastDistance 8 ((Option.some Jvm.ClassFile.FieldType.int)) ∈ gx_U := gx_mu (gx_t_4 (List.mem_of_getElem? (i := 12) rfl)) rfl
theorem wn_X3_leastDistance : Cond.instanceMethod yX3_leastDistance ∈ gx_U := gx_mu (gx_t_4 (List.mem_of_getElem? (i := 11) rfl)) rfl
theorem ws_X3_leastDistance : Cond.selects RX3 yX3_leastDistance yX3_leastDistance ∈ gx_U := gx_mu (gx_t_p (List.mem_of_getElem? (i := 25) rfl)) rfl
theorem lk_X3_52 : gx_lk gx_U RX3 52 RX3 yX3_leastDistance cX3_leastDistance 8 ((Option.some Jvm.ClassFile.FieldType.int)) 3 := ⟨gx_mu (gx_t_4 (List.mem_of_getElem? (i := 9) rfl)) rfl, wn_X3_leastDistance, ws_X3_leastDistance, wi_X3, wc_X3_leastDistance, rfl, by decide +kernel, by decide +kernel, by decide +kernel⟩
theorem fl_X3_56 : gx_fl gx_U RX3 56 RX3 TX3 10 9 := ⟨iu_X3, by decide, gx_mu (gx_t_2 (List.mem_of_getElem? (i := 20) rfl)) rfl, rfl⟩
theorem fl_X3_15 : gx_fl gx_U RX3 15 RX3 TX3 10 2 := ⟨iu_X3, by decide, gx_mu (gx_t_2 (List.mem_of_getElem? (i := 13) rfl)) rfl, rfl⟩
theorem fl_X3_92 : gx_fl gx_U RX3 92 RX3 TX3 10 5 := ⟨iu_X3, by decide, gx_mu (gx_t_2 (List.mem_of_getElem? (i := 16) rfl)) rfl, rfl⟩
theorem fl_X3_19 : gx_fl gx_U RX3 19 RX3 TX3 10 3 := ⟨iu_X3, by decide, gx_mu (gx_t_2 (List.mem_of_getElem? (i := 14) rfl)) rfl, rfl⟩
theorem fl_X3_22 : gx_fl gx_U RX3 22 RX3 TX3 10 4 := ⟨iu_X3, by decide, gx_mu (gx_t_2 (List.mem_of_getElem? (i := 15) rfl)) rfl, rfl⟩
theorem fl_X3_98 : gx_fl gx_U RX3 98 RX6 TX6 2 1 := ⟨iu_X6, by decide, gx_mu (gx_t_1 (List.mem_of_getElem? (i := 220) rfl)) rfl, rfl⟩
theorem lk_X3_111 : gx_lk gx_U RX3 111 RX6 yX6_at cX6_at 2 ((Option.some Jvm.ClassFile.FieldType.char)) 1 := ⟨gx_mu (gx_t_4 (List.mem_of_getElem? (i := 28) rfl)) rfl, wn_X6_at, ws_X6_at, wi_X6, wc_X6_at, rfl, by decide +kernel, by decide +kernel, by decide +kernel⟩
theorem lk_X3_123 : gx_lkS gx_U RX3 123 yX6_isDigit cX6_isDigit 1 ((Option.some Jvm.ClassFile.FieldType.boolean)) 1 := ⟨gx_mu (gx_t_4 (List.mem_of_getElem? (i := 40) rfl)) rfl, wt_X6_isDigit, wi_X6, wc_X6_isDigit, by decide +kernel, by decide +kernel, by decide +kernel⟩
theorem wc_X3_startTerms : Cond.code yX3_startTerms cX3_startTerms 1 ((Option.none : Option Jvm.ClassFile.FieldType)) ∈ gx_U := gx_mu (gx_t_4 (List.mem_of_getElem? (i := 23) rfl)) rfl
theorem wn_X3_startTerms : Cond.instanceMethod yX3_startTerms ∈ gx_U := gx_mu (gx_t_4 (List.mem_of_getElem? (i := 22) rfl)) rfl
theorem ws_X3_startTerms : Cond.selects RX3 yX3_startTerms yX3_startTerms ∈ gx_U := gx_mu (gx_t_p (List.mem_of_getElem? (i := 26) rfl)) rfl
theorem lk_X3_95 : gx_lk gx_U RX3 95 RX3 yX3_startTerms cX3_startTerms 1 ((Option.none : Option Jvm.ClassFile.FieldType)) 0 := ⟨gx_mu (gx_t_4 (List.mem_of_getElem? (i := 20) rfl)) rfl, wn_X3_startTerms, ws_X3_startTerms, wi_X3, wc_X3_startTerms, rfl, by decide +kernel, by decide +kernel, by decide +kernel⟩
theorem wc_X3_termsHold : Cond.code yX3_termsHold cX3_termsHold 1 ((Option.some Jvm.ClassFile.FieldType.boolean)) ∈ gx_U := gx_mu (gx_t_4 (List.mem_of_getElem? (i := 32) rfl)) rfl
theorem wn_X3_termsHold : Cond.instanceMethod yX3_termsHold ∈ gx_U := gx_mu (gx_t_4 (List.mem_of_getElem? (i := 31) rfl)) rfl
theorem ws_X3_termsHold : Cond.selects RX3 yX3_termsHold yX3_termsHold ∈ gx_U := gx_mu (gx_t_p (List.mem_of_getElem? (i := 28) rfl)) rfl
theorem lk_X3_107 : gx_lk gx_U RX3 107 RX3 yX3_termsHold cX3_termsHold 1 ((Option.some Jvm.ClassFile.FieldType.boolean)) 0 := ⟨gx_mu (gx_t_4 (List.mem_of_getElem? (i := 29) rfl)) rfl, wn_X3_termsHold, ws_X3_termsHold, wi_X3, wc_X3_termsHold, rfl, by decide +kernel, by decide +kernel, by decide +kernel⟩
theorem wc_X3_takeFactor : Cond.code yX3_takeFactor cX3_takeFactor 2 ((Option.none : Option Jvm.ClassFile.FieldType)) ∈ gx_U := gx_mu (gx_t_4 (List.mem_of_getElem? (i := 36) rfl)) rfl
theorem wn_X3_takeFactor : Cond.instanceMethod yX3_takeFactor ∈ gx_U := gx_mu (gx_t_4 (List.mem_of_getElem? (i := 35) rfl)) rfl
theorem ws_X3_takeFactor : Cond.selects RX3 yX3_takeFactor yX3_takeFactor ∈ gx_U := gx_mu (gx_t_p (List.mem_of_getElem? (i := 29) rfl)) rfl
theorem lk_X3_115 : gx_lk gx_U RX3 115 RX3 yX3_takeFactor cX3_takeFactor 2 ((Option.none : Option Jvm.ClassFile.FieldType)) 1 := ⟨gx_mu (gx_t_4 (List.mem_of_getElem? (i := 33) rfl)) rfl, wn_X3_takeFactor, ws_X3_takeFactor, wi_X3, wc_X3_takeFactor, rfl, by decide +kernel, by decide +kernel, by decide +kernel⟩
theorem wc_X3_comparisonHolds : Cond.code yX3_comparisonHolds cX3_comparisonHolds 5 ((Option.some Jvm.ClassFile.FieldType.boolean)) ∈ gx_U := gx_mu (gx_t_4 (List.mem_of_getElem? (i := 39) rfl)) rfl
theorem wt_X3_comparisonHolds : Cond.static yX3_comparisonHolds ∈ gx_U := gx_mu (gx_t_4 (List.mem_of_getElem? (i := 38) rfl)) rfl
theorem lk_X3_119 : gx_lkS gx_U RX3 119 yX3_comparisonHolds cX3_comparisonHolds 5 ((Option.some Jvm.ClassFile.FieldType.boolean)) 3 := ⟨gx_mu (gx_t_4 (List.mem_of_getElem? (i := 37) rfl)) rfl, wt_X3_comparisonHolds, wi_X3, wc_X3_comparisonHolds, by decide +kernel, by decide +kernel, by decide +kernel⟩
theorem wc_X3_readLetter : Cond.code yX3_readLetter cX3_readLetter 4 ((Option.none : Option Jvm.ClassFile.FieldType)) ∈ gx_U := gx_mu (gx_t_4 (List.mem_of_getElem? (i := 27) rfl)) rfl
theorem wn_X3_readLetter : Cond.instanceMethod yX3_readLetter ∈ gx_U := gx_mu (gx_t_4 (List.mem_of_getElem? (i := 26) rfl)) rfl
theorem ws_X3_readLetter : Cond.selects RX3 yX3_readLetter yX3_readLetter ∈ gx_U := gx_mu (gx_t_p (List.mem_of_getElem? (i := 27) rfl)) rfl
theorem lk_X3_103 : gx_lk gx_U RX3 103 RX3 yX3_readLetter cX3_readLetter 4 ((Option.none : Option Jvm.ClassFile.FieldType)) 2 := ⟨gx_mu (gx_t_4 (List.mem_of_getElem? (i := 24) rfl)) rfl, wn_X3_readLetter, ws_X3_readLetter, wi_X3, wc_X3_readLetter, rfl, by decide +kernel, by decide +kernel, by decide +kernel⟩
theorem kJ6_265 : Cond.constant RJ6 265 1431655765 ∈ gx_U := gx_mu (gx_t_2 (List.mem_of_getElem? (i := 122) rfl)) rfl
theorem kJ6_266 : Cond.constant RJ6 266 858993459 ∈ gx_U := gx_mu (gx_t_2 (List.mem_of_getElem? (i := 123) rfl)) rfl
theorem kJ6_267 : Cond.constant RJ6 267 252645135 ∈ gx_U := gx_mu (gx_t_2 (List.mem_of_getElem? (i := 124) rfl)) rfl
theorem wc_X4_setOf : Cond.code yX4_setOf cX4_setOf 4 ((Option.some Jvm.ClassFile.FieldType.int)) ∈ gx_U := gx_mu (gx_t_2 (List.mem_of_getElem? (i := 118) rfl)) rfl
theorem wn_X4_setOf : Cond.instanceMethod yX4_setOf ∈ gx_U := gx_mu (gx_t_2 (List.mem_of_getElem? (i := 116) rfl)) rfl
theorem ws_X4_setOf : Cond.selects RX4 yX4_setOf yX4_setOf ∈ gx_U := gx_mu (gx_t_2 (List.mem_of_getElem? (i := 117) rfl)) rfl
theorem lk_X4_32 : gx_lk gx_U RX4 32 RX4 yX4_setOf cX4_setOf 4 ((Option.some Jvm.ClassFile.FieldType.int)) 1 := ⟨gx_mu (gx_t_2 (List.mem_of_getElem? (i := 115) rfl)) rfl, wn_X4_setOf, ws_X4_setOf, wi_X4, wc_X4_setOf, rfl, by decide +kernel, by decide +kernel, by decide +kernel⟩
theorem wc_J6_bitCount_0f7a4 : Cond.code yJ6_bitCount_0f7a4 cJ6_bitCount_0f7a4 1 ((Option.some Jvm.ClassFile.FieldType.int)) ∈ gx_U := gx_mu (gx_t_2 (List.mem_of_getElem? (i := 121) rfl)) rfl
theorem wi_J6 : Cond.initialized RJ6 ∈ gx_U := gx_mu (gx_t_1 (List.mem_of_getElem? (i := 10) rfl)) rfl
theorem wt_J6_bitCount_0f7a4 : Cond.static yJ6_bitCount_0f7a4 ∈ gx_U := gx_mu (gx_t_2 (List.mem_of_getElem? (i := 120) rfl)) rfl
theorem lk_X4_36 : gx_lkS gx_U RX4 36 yJ6_bitCount_0f7a4 cJ6_bitCount_0f7a4 1 ((Option.some Jvm.ClassFile.FieldType.int)) 1 := ⟨gx_mu (gx_t_2 (List.mem_of_getElem? (i := 119) rfl)) rfl, wt_J6_bitCount_0f7a4, wi_J6, wc_J6_bitCount_0f7a4, by decide +kernel, by decide +kernel, by decide +kernel⟩
theorem fl_X4_48 : gx_fl gx_U RX4 48 RX5 TX5 14 5 := ⟨iu_X5, by decide, gx_mu (gx_t_1 (List.mem_of_getElem? (i := 54) rfl)) rfl, rfl⟩
theorem lk_X4_51 : gx_lkS gx_U RX4 51 yJ9_abs_0f7a4 cJ9_abs_0f7a4 1 ((Option.some Jvm.ClassFile.FieldType.int)) 1 := ⟨gx_mu (gx_t_3 (List.mem_of_getElem? (i := 87) rfl)) rfl, wt_J9_abs_0f7a4, wi_J9, wc_J9_abs_0f7a4, by decide +kernel, by decide +kernel, by decide +kernel⟩
theorem fl_X4_79 : gx_fl gx_U RX4 79 RX5 TX5 14 6 := ⟨iu_X5, by decide, gx_mu (gx_t_1 (List.mem_of_getElem? (i := 57) rfl)) rfl, rfl⟩
theorem fl_X5_47 : gx_fl gx_U RX5 47 RX5 TX5 14 0 := ⟨iu_X5, by decide, gx_mu (gx_t_1 (List.mem_of_getElem? (i := 28) rfl)) rfl, rfl⟩
theorem fl_X5_24 : gx_fl gx_U RX5 24 RX5 TX5 14 7 := ⟨iu_X5, by decide, gx_mu (gx_t_1 (List.mem_of_getElem? (i := 58) rfl)) rfl, rfl⟩
theorem fl_X5_18 : gx_fl gx_U RX5 18 RX5 TX5 14 5 := ⟨iu_X5, by decide, gx_mu (gx_t_1 (List.mem_of_getElem? (i := 51) rfl)) rfl, rfl⟩
theorem lk_X5_61 : gx_lkS gx_U RX5 61 yJ9_abs_0f7a4 cJ9_abs_0f7a4 1 ((Option.some Jvm.ClassFile.FieldType.int)) 1 := ⟨gx_mu (gx_t_2 (List.mem_of_getElem? (i := 133) rfl)) rfl, wt_J9_abs_0f7a4, wi_J9, wc_J9_abs_0f7a4, by decide +kernel, by decide +kernel, by decide +kernel⟩
theorem fl_X5_44 : gx_fl gx_U RX5 44 RX5 TX5 14 13 := ⟨iu_X5, by decide, gx_mu (gx_t_1 (List.mem_of_getElem? (i := 76) rfl)) rfl, rfl⟩
theorem fl_X5_30 : gx_fl gx_U RX5 30 RX5 TX5 14 9 := ⟨iu_X5, by decide, gx_mu (gx_t_1 (List.mem_of_getElem? (i := 66) rfl)) rfl, rfl⟩
theorem fl_X5_36 : gx_fl gx_U RX5 36 RX5 TX5 14 11 := ⟨iu_X5, by decide, gx_mu (gx_t_1 (List.mem_of_getElem? (i := 72) rfl)) rfl, rfl⟩
theorem fl_X5_39 : gx_fl gx_U RX5 39 RX5 TX5 14 12 := ⟨iu_X5, by decide, gx_mu (gx_t_1 (List.mem_of_getElem? (i := 74) rfl)) rfl, rfl⟩
theorem fl_X5_51 : gx_fl gx_U RX5 51 RX5 TX5 14 1 := ⟨iu_X5, by decide, gx_mu (gx_t_1 (List.mem_of_getElem? (i := 32) rfl)) rfl, rfl⟩
theorem fl_X5_54 : gx_fl gx_U RX5 54 RX5 TX5 14 2 := ⟨iu_X5, by decide, gx_mu (gx_t_1 (List.mem_of_getElem? (i := 40) rfl)) rfl, rfl⟩
theorem wc_X5_measure : Cond.code yX5_measure cX5_measure 4 ((Option.none : Option Jvm.ClassFile.FieldType)) ∈ gx_U := gx_mu (gx_t_2 (List.mem_of_getElem? (i := 132) rfl)) rfl
theorem wn_X5_measure : Cond.instanceMethod yX5_measure ∈ gx_U := gx_mu (gx_t_2 (List.mem_of_getElem? (i := 131) rfl)) rfl
theorem ws_X5_measure : Cond.selects RX5 yX5_measure yX5_measure ∈ gx_U := gx_mu (gx_t_p (List.mem_of_getElem? (i := 1) rfl)) rfl
theorem lk_X5_57 : gx_lk gx_U RX5 57 RX5 yX5_measure cX5_measure 4 ((Option.none : Option Jvm.ClassFile.FieldType)) 2 := ⟨gx_mu (gx_t_2 (List.mem_of_getElem? (i := 129) rfl)) rfl, wn_X5_measure, ws_X5_measure, wi_X5, wc_X5_measure, rfl, by decide +kernel, by decide +kernel, by decide +kernel⟩
theorem fl_X5_27 : gx_fl gx_U RX5 27 RX5 TX5 14 8 := ⟨iu_X5, by decide, gx_mu (gx_t_1 (List.mem_of_getElem? (i := 60) rfl)) rfl, rfl⟩
theorem fl_X5_33 : gx_fl gx_U RX5 33 RX5 TX5 14 10 := ⟨iu_X5, by decide, gx_mu (gx_t_1 (List.mem_of_getElem? (i := 68) rfl)) rfl, rfl⟩
theorem wc_X7_isNot : Cond.code yX7_isNot cX7_isNot 3 ((Option.some Jvm.ClassFile.FieldType.boolean)) ∈ gx_U := gx_mu (gx_t_2 (List.mem_of_getElem? (i := 94) rfl)) rfl
theorem wi_X7 : Cond.initialized RX7 ∈ gx_U := gx_mu (gx_t_1 (List.mem_of_getElem? (i := 1) rfl)) rfl
theorem wt_X7_isNot : Cond.static yX7_isNot ∈ gx_U := gx_mu (gx_t_2 (List.mem_of_getElem? (i := 93) rfl)) rfl
theorem lk_X7_72 : gx_lkS gx_U RX7 72 yX7_isNot cX7_isNot 3 ((Option.some Jvm.ClassFile.FieldType.boolean)) 3 := ⟨gx_mu (gx_t_2 (List.mem_of_getElem? (i := 92) rfl)) rfl, wt_X7_isNot, wi_X7, wc_X7_isNot, by decide +kernel, by decide +kernel, by decide +kernel⟩
theorem fl_X7_10 : gx_fl gx_U RX7 10 RX7 TX7 15 0 := ⟨iu_X7, by decide, gx_mu (gx_t_2 (List.mem_of_getElem? (i := 42) rfl)) rfl, rfl⟩
theorem wc_X5_addOwner : Cond.code yX5_addOwner cX5_addOwner 3 ((Option.some Jvm.ClassFile.FieldType.int)) ∈ gx_U := gx_mu (gx_t_2 (List.mem_of_getElem? (i := 98) rfl)) rfl
theorem wn_X5_addOwner : Cond.instanceMethod yX5_addOwner ∈ gx_U := gx_mu (gx_t_2 (List.mem_of_getElem? (i := 96) rfl)) rfl
theorem ws_X5_addOwner : Cond.selects RX5 yX5_addOwner yX5_addOwner ∈ gx_U := gx_mu (gx_t_2 (List.mem_of_getElem? (i := 97) rfl)) rfl
theorem lk_X7_76 : gx_lk gx_U RX7 76 RX5 yX5_addOwner cX5_addOwner 3 ((Option.some Jvm.ClassFile.FieldType.int)) 2 := ⟨gx_mu (gx_t_2 (List.mem_of_getElem? (i := 95) rfl)) rfl, wn_X5_addOwner, ws_X5_addOwner, wi_X5, wc_X5_addOwner, rfl, by decide +kernel, by decide +kernel, by decide +kernel⟩
theorem fl_X7_159 : gx_fl gx_U RX7 159 RX5 TX5 14 0 := ⟨iu_X5, by decide, gx_mu (gx_t_1 (List.mem_of_getElem? (i := 31) rfl)) rfl, rfl⟩
theorem wc_X7_isNoOwner : Cond.code yX7_isNoOwner cX7_isNoOwner 2 ((Option.some Jvm.ClassFile.FieldType.boolean)) ∈ gx_U := gx_mu (gx_t_2 (List.mem_of_getElem? (i := 106) rfl)) rfl
theorem wn_X7_isNoOwner : Cond.instanceMethod yX7_isNoOwner ∈ gx_U := gx_mu (gx_t_2 (List.mem_of_getElem? (i := 105) rfl)) rfl
theorem ws_X7_isNoOwner : Cond.selects RX7 yX7_isNoOwner yX7_isNoOwner ∈ gx_U := gx_mu (gx_t_p (List.mem_of_getElem? (i := 0) rfl)) rfl
theorem lk_X7_80 : gx_lk gx_U RX7 80 RX7 yX7_isNoOwner cX7_isNoOwner 2 ((Option.some Jvm.ClassFile.FieldType.boolean)) 1 := ⟨gx_mu (gx_t_2 (List.mem_of_getElem? (i := 103) rfl)) rfl, wn_X7_isNoOwner, ws_X7_isNoOwner, wi_X7, wc_X7_isNoOwner, rfl, by decide +kernel, by decide +kernel, by decide +kernel⟩
theorem fl_X7_84 : gx_fl gx_U RX7 84 RX5 TX5 14 3 := ⟨iu_X5, by decide, gx_mu (gx_t_1 (List.mem_of_getElem? (i := 45) rfl)) rfl, rfl⟩
theorem fl_X7_21 : gx_fl gx_U RX7 21 RX7 TX7 15 1 := ⟨iu_X7, by decide, gx_mu (gx_t_2 (List.mem_of_getElem? (i := 43) rfl)) rfl, rfl⟩
theorem wc_X4_shopsOf : Cond.code yX4_shopsOf cX4_shopsOf 2 ((Option.some Jvm.ClassFile.FieldType.int)) ∈ gx_U := gx_mu (gx_t_2 (List.mem_of_getElem? (i := 114) rfl)) rfl
theorem wn_X4_shopsOf : Cond.instanceMethod yX4_shopsOf ∈ gx_U := gx_mu (gx_t_2 (List.mem_of_getElem? (i := 112) rfl)) rfl
theorem ws_X4_shopsOf : Cond.selects RX4 yX4_shopsOf yX4_shopsOf ∈ gx_U := gx_mu (gx_t_2 (List.mem_of_getElem? (i := 113) rfl)) rfl
theorem lk_X7_88 : gx_lk gx_U RX7 88 RX4 yX4_shopsOf cX4_shopsOf 2 ((Option.some Jvm.ClassFile.FieldType.int)) 1 := ⟨gx_mu (gx_t_2 (List.mem_of_getElem? (i := 111) rfl)) rfl, wn_X4_shopsOf, ws_X4_shopsOf, wi_X4, wc_X4_shopsOf, rfl, by decide +kernel, by decide +kernel, by decide +kernel⟩
theorem wc_X5_addShop : Cond.code yX5_addShop cX5_addShop 4 ((Option.some Jvm.ClassFile.FieldType.int)) ∈ gx_U := gx_mu (gx_t_2 (List.mem_of_getElem? (i := 128) rfl)) rfl
theorem wn_X5_addShop : Cond.instanceMethod yX5_addShop ∈ gx_U := gx_mu (gx_t_2 (List.mem_of_getElem? (i := 126) rfl)) rfl
theorem ws_X5_addShop : Cond.selects RX5 yX5_addShop yX5_addShop ∈ gx_U := gx_mu (gx_t_2 (List.mem_of_getElem? (i := 127) rfl)) rfl
theorem lk_X7_92 : gx_lk gx_U RX7 92 RX5 yX5_addShop cX5_addShop 4 ((Option.some Jvm.ClassFile.FieldType.int)) 2 := ⟨gx_mu (gx_t_2 (List.mem_of_getElem? (i := 125) rfl)) rfl, wn_X5_addShop, ws_X5_addShop, wi_X5, wc_X5_addShop, rfl, by decide +kernel, by decide +kernel, by decide +kernel⟩
theorem fl_X7_95 : gx_fl gx_U RX7 95 RX4 TX4 4 2 := ⟨iu_X4, by decide, gx_mu (gx_t_1 (List.mem_of_getElem? (i := 121) rfl)) rfl, rfl⟩
theorem fl_X7_98 : gx_fl gx_U RX7 98 RX4 TX4 4 1 := ⟨iu_X4, by decide, gx_mu (gx_t_1 (List.mem_of_getElem? (i := 118) rfl)) rfl, rfl⟩
theorem fl_X7_175 : gx_fl gx_U RX7 175 RX5 TX5 14 1 := ⟨iu_X5, by decide, gx_mu (gx_t_1 (List.mem_of_getElem? (i := 37) rfl)) rfl, rfl⟩
theorem wc_X7_isNoShop : Cond.code yX7_isNoShop cX7_isNoShop 2 ((Option.some Jvm.ClassFile.FieldType.boolean)) ∈ gx_U := gx_mu (gx_t_2 (List.mem_of_getElem? (i := 143) rfl)) rfl
theorem wn_X7_isNoShop : Cond.instanceMethod yX7_isNoShop ∈ gx_U := gx_mu (gx_t_2 (List.mem_of_getElem? (i := 142) rfl)) rfl
theorem ws_X7_isNoShop : Cond.selects RX7 yX7_isNoShop yX7_isNoShop ∈ gx_U := gx_mu (gx_t_p (List.mem_of_getElem? (i := 2) rfl)) rfl
theorem lk_X7_101 : gx_lk gx_U RX7 101 RX7 yX7_isNoShop cX7_isNoShop 2 ((Option.some Jvm.ClassFile.FieldType.boolean)) 1 := ⟨gx_mu (gx_t_2 (List.mem_of_getElem? (i := 140) rfl)) rfl, wn_X7_isNoShop, ws_X7_isNoShop, wi_X7, wc_X7_isNoShop, rfl, by decide +kernel, by decide +kernel, by decide +kernel⟩
theorem fl_X7_104 : gx_fl gx_U RX7 104 RX5 TX5 14 5 := ⟨iu_X5, by decide, gx_mu (gx_t_1 (List.mem_of_getElem? (i := 52) rfl)) rfl, rfl⟩
theorem fl_X7_107 : gx_fl gx_U RX7 107 RX5 TX5 14 6 := ⟨iu_X5, by decide, gx_mu (gx_t_1 (List.mem_of_getElem? (i := 56) rfl)) rfl, rfl⟩
theorem lk_X7_110 : gx_lk gx_U RX7 110 RX4 yX4_isOpen cX4_isOpen 3 ((Option.some Jvm.ClassFile.FieldType.boolean)) 1 := ⟨gx_mu (gx_t_2 (List.mem_of_getElem? (i := 144) rfl)) rfl, wn_X4_isOpen, ws_X4_isOpen, wi_X4, wc_X4_isOpen, rfl, by decide +kernel, by decide +kernel, by decide +kernel⟩
theorem wc_X4_soldBy : Cond.code yX4_soldBy cX4_soldBy 5 ((Option.some Jvm.ClassFile.FieldType.int)) ∈ gx_U := gx_mu (gx_t_2 (List.mem_of_getElem? (i := 151) rfl)) rfl
theorem wn_X4_soldBy : Cond.instanceMethod yX4_soldBy ∈ gx_U := gx_mu (gx_t_2 (List.mem_of_getElem? (i := 149) rfl)) rfl
theorem ws_X4_soldBy : Cond.selects RX4 yX4_soldBy yX4_soldBy ∈ gx_U := gx_mu (gx_t_2 (List.mem_of_getElem? (i := 150) rfl)) rfl
theorem lk_X7_113 : gx_lk gx_U RX7 113 RX4 yX4_soldBy cX4_soldBy 5 ((Option.some Jvm.ClassFile.FieldType.int)) 1 := ⟨gx_mu (gx_t_2 (List.mem_of_getElem? (i := 148) rfl)) rfl, wn_X4_soldBy, ws_X4_soldBy, wi_X4, wc_X4_soldBy, rfl, by decide +kernel, by decide +kernel, by decide +kernel⟩
theorem wc_X5_addSort : Cond.code yX5_addSort cX5_addSort 8 ((Option.some Jvm.ClassFile.FieldType.int)) ∈ gx_U := gx_mu (gx_t_2 (List.mem_of_getElem? (i := 172) rfl)) rfl
theorem wn_X5_addSort : Cond.instanceMethod yX5_addSort ∈ gx_U := gx_mu (gx_t_2 (List.mem_of_getElem? (i := 170) rfl)) rfl
theorem ws_X5_addSort : Cond.selects RX5 yX5_addSort yX5_addSort ∈ gx_U := gx_mu (gx_t_2 (List.mem_of_getElem? (i := 171) rfl)) rfl
theorem lk_X7_116 : gx_lk gx_U RX7 116 RX5 yX5_addSort cX5_addSort 8 ((Option.some Jvm.ClassFile.FieldType.int)) 6 := ⟨gx_mu (gx_t_2 (List.mem_of_getElem? (i := 169) rfl)) rfl, wn_X5_addSort, ws_X5_addSort, wi_X5, wc_X5_addSort, rfl, by decide +kernel, by decide +kernel, by decide +kernel⟩
theorem fl_X7_202 : gx_fl gx_U RX7 202 RX5 TX5 14 2 := ⟨iu_X5, by decide, gx_mu (gx_t_1 (List.mem_of_getElem? (i := 43) rfl)) rfl, rfl⟩
theorem wc_X7_isNoSort : Cond.code yX7_isNoSort cX7_isNoSort 2 ((Option.some Jvm.ClassFile.FieldType.boolean)) ∈ gx_U := gx_mu (gx_t_2 (List.mem_of_getElem? (i := 180) rfl)) rfl
theorem wn_X7_isNoSort : Cond.instanceMethod yX7_isNoSort ∈ gx_U := gx_mu (gx_t_2 (List.mem_of_getElem? (i := 179) rfl)) rfl
theorem ws_X7_isNoSort : Cond.selects RX7 yX7_isNoSort yX7_isNoSort ∈ gx_U := gx_mu (gx_t_p (List.mem_of_getElem? (i := 3) rfl)) rfl
theorem lk_X7_120 : gx_lk gx_U RX7 120 RX7 yX7_isNoSort cX7_isNoSort 2 ((Option.some Jvm.ClassFile.FieldType.boolean)) 1 := ⟨gx_mu (gx_t_2 (List.mem_of_getElem? (i := 177) rfl)) rfl, wn_X7_isNoSort, ws_X7_isNoSort, wi_X7, wc_X7_isNoSort, rfl, by decide +kernel, by decide +kernel, by decide +kernel⟩
theorem lk_X7_123 : gx_lk gx_U RX7 123 RX4 yX4_whatIs cX4_whatIs 3 ((Option.some Jvm.ClassFile.FieldType.int)) 2 := ⟨gx_mu (gx_t_2 (List.mem_of_getElem? (i := 181) rfl)) rfl, wn_X4_whatIs, ws_X4_whatIs, wi_X4, wc_X4_whatIs, rfl, by decide +kernel, by decide +kernel, by decide +kernel⟩
theorem lk_X7_126 : gx_lk gx_U RX7 126 RX4 yX4_choice cX4_choice 7 ((Option.some Jvm.ClassFile.FieldType.int)) 2 := ⟨gx_mu (gx_t_2 (List.mem_of_getElem? (i := 186) rfl)) rfl, wn_X4_choice, ws_X4_choice, wi_X4, wc_X4_choice, rfl, by decide +kernel, by decide +kernel, by decide +kernel⟩
theorem lk_X7_129 : gx_lk gx_U RX7 129 RX4 yX4_spareOf cX4_spareOf 3 ((Option.some Jvm.ClassFile.FieldType.int)) 1 := ⟨gx_mu (gx_t_2 (List.mem_of_getElem? (i := 191) rfl)) rfl, wn_X4_spareOf, ws_X4_spareOf, wi_X4, wc_X4_spareOf, rfl, by decide +kernel, by decide +kernel, by decide +kernel⟩
theorem kX7_132 : Cond.constant RX7 132 (-1000001) ∈ gx_U := gx_mu (gx_t_2 (List.mem_of_getElem? (i := 199) rfl)) rfl
theorem lk_X7_133 : gx_lk gx_U RX7 133 RX4 yX4_profitOf cX4_profitOf 5 ((Option.some Jvm.ClassFile.FieldType.int)) 1 := ⟨gx_mu (gx_t_2 (List.mem_of_getElem? (i := 200) rfl)) rfl, wn_X4_profitOf, ws_X4_profitOf, wi_X4, wc_X4_profitOf, rfl, by decide +kernel, by decide +kernel, by decide +kernel⟩
theorem fl_X7_34 : gx_fl gx_U RX7 34 RX7 TX7 15 4 := ⟨iu_X7, by decide, gx_mu (gx_t_2 (List.mem_of_getElem? (i := 46) rfl)) rfl, rfl⟩
theorem lk_X7_136 : gx_lk gx_U RX7 136 RX0 yX0_look cX0_look 4 ((Option.none : Option Jvm.ClassFile.FieldType)) 2 := ⟨gx_mu (gx_t_2 (List.mem_of_getElem? (i := 215) rfl)) rfl, wn_X0_look, ws_X0_look, wi_X0, wc_X0_look, rfl, by decide +kernel, by decide +kernel, by decide +kernel⟩
theorem wc_X0_priceOf : Cond.code yX0_priceOf cX0_priceOf 3 ((Option.some Jvm.ClassFile.FieldType.int)) ∈ gx_U := gx_mu (gx_t_3 (List.mem_of_getElem? (i := 22) rfl)) rfl
theorem wn_X0_priceOf : Cond.instanceMethod yX0_priceOf ∈ gx_U := gx_mu (gx_t_3 (List.mem_of_getElem? (i := 20) rfl)) rfl
theorem ws_X0_priceOf : Cond.selects RX0 yX0_priceOf yX0_priceOf ∈ gx_U := gx_mu (gx_t_3 (List.mem_of_getElem? (i := 21) rfl)) rfl
theorem lk_X7_140 : gx_lk gx_U RX7 140 RX0 yX0_priceOf cX0_priceOf 3 ((Option.some Jvm.ClassFile.FieldType.int)) 1 := ⟨gx_mu (gx_t_3 (List.mem_of_getElem? (i := 19) rfl)) rfl, wn_X0_priceOf, ws_X0_priceOf, wi_X0, wc_X0_priceOf, rfl, by decide +kernel, by decide +kernel, by decide +kernel⟩
theorem fl_X7_143 : gx_fl gx_U RX7 143 RX0 TX0 13 12 := ⟨iu_X0, by decide, gx_mu (gx_t_1 (List.mem_of_getElem? (i := 158) rfl)) rfl, rfl⟩
theorem lk_X7_147 : gx_lk gx_U RX7 147 RX0 yX0_take cX0_take 5 ((Option.some Jvm.ClassFile.FieldType.int)) 2 := ⟨gx_mu (gx_t_3 (List.mem_of_getElem? (i := 27) rfl)) rfl, wn_X0_take, ws_X0_take, wi_X0, wc_X0_take, rfl, by decide +kernel, by decide +kernel, by decide +kernel⟩
theorem fl_X7_25 : gx_fl gx_U RX7 25 RX7 TX7 15 2 := ⟨iu_X7, by decide, gx_mu (gx_t_2 (List.mem_of_getElem? (i := 44) rfl)) rfl, rfl⟩
theorem lk_X7_151 : gx_lk gx_U RX7 151 RX4 yX4_become cX4_become 3 ((Option.none : Option Jvm.ClassFile.FieldType)) 1 := ⟨gx_mu (gx_t_3 (List.mem_of_getElem? (i := 35) rfl)) rfl, wn_X4_become, ws_X4_become, wi_X4, wc_X4_become, rfl, by decide +kernel, by decide +kernel, by decide +kernel⟩
theorem lk_X7_155 : gx_lk gx_U RX7 155 RX0 yX0_settle cX0_settle 5 ((Option.some Jvm.ClassFile.FieldType.int)) 1 := ⟨gx_mu (gx_t_3 (List.mem_of_getElem? (i := 39) rfl)) rfl, wn_X0_settle, ws_X0_settle, wi_X0, wc_X0_settle, rfl, by decide +kernel, by decide +kernel, by decide +kernel⟩
theorem fl_X7_166 : gx_fl gx_U RX7 166 RX0 TX0 13 11 := ⟨iu_X0, by decide, gx_mu (gx_t_1 (List.mem_of_getElem? (i := 156) rfl)) rfl, rfl⟩
theorem wc_X7_gainOf : Cond.code yX7_gainOf cX7_gainOf 2 ((Option.some Jvm.ClassFile.FieldType.int)) ∈ gx_U := gx_mu (gx_t_3 (List.mem_of_getElem? (i := 52) rfl)) rfl
theorem wn_X7_gainOf : Cond.instanceMethod yX7_gainOf ∈ gx_U := gx_mu (gx_t_3 (List.mem_of_getElem? (i := 51) rfl)) rfl
theorem ws_X7_gainOf : Cond.selects RX7 yX7_gainOf yX7_gainOf ∈ gx_U := gx_mu (gx_t_p (List.mem_of_getElem? (i := 12) rfl)) rfl
theorem lk_X7_163 : gx_lk gx_U RX7 163 RX7 yX7_gainOf cX7_gainOf 2 ((Option.some Jvm.ClassFile.FieldType.int)) 1 := ⟨gx_mu (gx_t_3 (List.mem_of_getElem? (i := 49) rfl)) rfl, wn_X7_gainOf, ws_X7_gainOf, wi_X7, wc_X7_gainOf, rfl, by decide +kernel, by decide +kernel, by decide +kernel⟩
theorem lk_X7_194 : gx_lkS gx_U RX7 194 yJ9_min_7cf53 cJ9_min_7cf53 2 ((Option.some Jvm.ClassFile.FieldType.int)) 2 := ⟨gx_mu (gx_t_3 (List.mem_of_getElem? (i := 74) rfl)) rfl, wt_J9_min_7cf53, wi_J9, wc_J9_min_7cf53, by decide +kernel, by decide +kernel, by decide +kernel⟩
theorem wc_X4_marginOf : Cond.code yX4_marginOf cX4_marginOf 5 ((Option.some Jvm.ClassFile.FieldType.int)) ∈ gx_U := gx_mu (gx_t_3 (List.mem_of_getElem? (i := 78) rfl)) rfl
theorem wn_X4_marginOf : Cond.instanceMethod yX4_marginOf ∈ gx_U := gx_mu (gx_t_3 (List.mem_of_getElem? (i := 76) rfl)) rfl
theorem ws_X4_marginOf : Cond.selects RX4 yX4_marginOf yX4_marginOf ∈ gx_U := gx_mu (gx_t_3 (List.mem_of_getElem? (i := 77) rfl)) rfl
theorem lk_X7_199 : gx_lk gx_U RX7 199 RX4 yX4_marginOf cX4_marginOf 5 ((Option.some Jvm.ClassFile.FieldType.int)) 1 := ⟨gx_mu (gx_t_3 (List.mem_of_getElem? (i := 75) rfl)) rfl, wn_X4_marginOf, ws_X4_marginOf, wi_X4, wc_X4_marginOf, rfl, by decide +kernel, by decide +kernel, by decide +kernel⟩
theorem wc_X4_openShops : Cond.code yX4_openShops cX4_openShops 3 ((Option.some Jvm.ClassFile.FieldType.int)) ∈ gx_U := gx_mu (gx_t_3 (List.mem_of_getElem? (i := 68) rfl)) rfl
theorem wn_X4_openShops : Cond.instanceMethod yX4_openShops ∈ gx_U := gx_mu (gx_t_3 (List.mem_of_getElem? (i := 66) rfl)) rfl
theorem ws_X4_openShops : Cond.selects RX4 yX4_openShops yX4_openShops ∈ gx_U := gx_mu (gx_t_3 (List.mem_of_getElem? (i := 67) rfl)) rfl
theorem lk_X7_185 : gx_lk gx_U RX7 185 RX4 yX4_openShops cX4_openShops 3 ((Option.some Jvm.ClassFile.FieldType.int)) 0 := ⟨gx_mu (gx_t_3 (List.mem_of_getElem? (i := 65) rfl)) rfl, wn_X4_openShops, ws_X4_openShops, wi_X4, wc_X4_openShops, rfl, by decide +kernel, by decide +kernel, by decide +kernel⟩
theorem lk_X7_189 : gx_lkS gx_U RX7 189 yJ6_bitCount_0f7a4 cJ6_bitCount_0f7a4 1 ((Option.some Jvm.ClassFile.FieldType.int)) 1 := ⟨gx_mu (gx_t_3 (List.mem_of_getElem? (i := 69) rfl)) rfl, wt_J6_bitCount_0f7a4, wi_J6, wc_J6_bitCount_0f7a4, by decide +kernel, by decide +kernel, by decide +kernel⟩
theorem wc_X7_wouldPay : Cond.code yX7_wouldPay cX7_wouldPay 4 ((Option.some Jvm.ClassFile.FieldType.boolean)) ∈ gx_U := gx_mu (gx_t_3 (List.mem_of_getElem? (i := 73) rfl)) rfl
theorem wn_X7_wouldPay : Cond.instanceMethod yX7_wouldPay ∈ gx_U := gx_mu (gx_t_3 (List.mem_of_getElem? (i := 72) rfl)) rfl
theorem ws_X7_wouldPay : Cond.selects RX7 yX7_wouldPay yX7_wouldPay ∈ gx_U := gx_mu (gx_t_p (List.mem_of_getElem? (i := 14) rfl)) rfl
theorem lk_X7_178 : gx_lk gx_U RX7 178 RX7 yX7_wouldPay cX7_wouldPay 4 ((Option.some Jvm.ClassFile.FieldType.boolean)) 2 := ⟨gx_mu (gx_t_3 (List.mem_of_getElem? (i := 70) rfl)) rfl, wn_X7_wouldPay, ws_X7_wouldPay, wi_X7, wc_X7_wouldPay, rfl, by decide +kernel, by decide +kernel, by decide +kernel⟩
theorem wc_X4_nearestOpen : Cond.code yX4_nearestOpen cX4_nearestOpen 7 ((Option.some Jvm.ClassFile.FieldType.int)) ∈ gx_U := gx_mu (gx_t_3 (List.mem_of_getElem? (i := 86) rfl)) rfl
theorem wn_X4_nearestOpen : Cond.instanceMethod yX4_nearestOpen ∈ gx_U := gx_mu (gx_t_3 (List.mem_of_getElem? (i := 84) rfl)) rfl
theorem ws_X4_nearestOpen : Cond.selects RX4 yX4_nearestOpen yX4_nearestOpen ∈ gx_U := gx_mu (gx_t_3 (List.mem_of_getElem? (i := 85) rfl)) rfl
theorem lk_X7_182 : gx_lk gx_U RX7 182 RX4 yX4_nearestOpen cX4_nearestOpen 7 ((Option.some Jvm.ClassFile.FieldType.int)) 2 := ⟨gx_mu (gx_t_3 (List.mem_of_getElem? (i := 83) rfl)) rfl, wn_X4_nearestOpen, ws_X4_nearestOpen, wi_X4, wc_X4_nearestOpen, rfl, by decide +kernel, by decide +kernel, by decide +kernel⟩
theorem wc_X7_leastMarket : Cond.code yX7_leastMarket cX7_leastMarket 7 ((Option.some Jvm.ClassFile.FieldType.int)) ∈ gx_U := gx_mu (gx_t_3 (List.mem_of_getElem? (i := 64) rfl)) rfl
theorem wn_X7_leastMarket : Cond.instanceMethod yX7_leastMarket ∈ gx_U := gx_mu (gx_t_3 (List.mem_of_getElem? (i := 63) rfl)) rfl
theorem ws_X7_leastMarket : Cond.selects RX7 yX7_leastMarket yX7_leastMarket ∈ gx_U := gx_mu (gx_t_p (List.mem_of_getElem? (i := 13) rfl)) rfl
theorem lk_X7_169 : gx_lk gx_U RX7 169 RX7 yX7_leastMarket cX7_leastMarket 7 ((Option.some Jvm.ClassFile.FieldType.int)) 2 := ⟨gx_mu (gx_t_3 (List.mem_of_getElem? (i := 61) rfl)) rfl, wn_X7_leastMarket, ws_X7_leastMarket, wi_X7, wc_X7_leastMarket, rfl, by decide +kernel, by decide +kernel, by decide +kernel⟩
theorem wc_X7_nearMarket : Cond.code yX7_nearMarket cX7_nearMarket 6 ((Option.some Jvm.ClassFile.FieldType.int)) ∈ gx_U := gx_mu (gx_t_3 (List.mem_of_getElem? (i := 82) rfl)) rfl
theorem wn_X7_nearMarket : Cond.instanceMethod yX7_nearMarket ∈ gx_U := gx_mu (gx_t_3 (List.mem_of_getElem? (i := 81) rfl)) rfl
theorem ws_X7_nearMarket : Cond.selects RX7 yX7_nearMarket yX7_nearMarket ∈ gx_U := gx_mu (gx_t_p (List.mem_of_getElem? (i := 15) rfl)) rfl
theorem lk_X7_172 : gx_lk gx_U RX7 172 RX7 yX7_nearMarket cX7_nearMarket 6 ((Option.some Jvm.ClassFile.FieldType.int)) 2 := ⟨gx_mu (gx_t_3 (List.mem_of_getElem? (i := 79) rfl)) rfl, wn_X7_nearMarket, ws_X7_nearMarket, wi_X7, wc_X7_nearMarket, rfl, by decide +kernel, by decide +kernel, by decide +kernel⟩
theorem fl_X7_205 : gx_fl gx_U RX7 205 RX5 TX5 14 8 := ⟨iu_X5, by decide, gx_mu (gx_t_1 (List.mem_of_getElem? (i := 65) rfl)) rfl, rfl⟩
theorem wc_X7_areNotTwo : Cond.code yX7_areNotTwo cX7_areNotTwo 3 ((Option.some Jvm.ClassFile.FieldType.boolean)) ∈ gx_U := gx_mu (gx_t_3 (List.mem_of_getElem? (i := 103) rfl)) rfl
theorem wn_X7_areNotTwo : Cond.instanceMethod yX7_areNotTwo ∈ gx_U := gx_mu (gx_t_3 (List.mem_of_getElem? (i := 102) rfl)) rfl
theorem ws_X7_areNotTwo : Cond.selects RX7 yX7_areNotTwo yX7_areNotTwo ∈ gx_U := gx_mu (gx_t_p (List.mem_of_getElem? (i := 16) rfl)) rfl
theorem lk_X7_208 : gx_lk gx_U RX7 208 RX7 yX7_areNotTwo cX7_areNotTwo 3 ((Option.some Jvm.ClassFile.FieldType.boolean)) 2 := ⟨gx_mu (gx_t_3 (List.mem_of_getElem? (i := 100) rfl)) rfl, wn_X7_areNotTwo, ws_X7_areNotTwo, wi_X7, wc_X7_areNotTwo, rfl, by decide +kernel, by decide +kernel, by decide +kernel⟩
theorem wc_X7_areTooMany : Cond.code yX7_areTooMany cX7_areTooMany 3 ((Option.some Jvm.ClassFile.FieldType.boolean)) ∈ gx_U := gx_mu (gx_t_3 (List.mem_of_getElem? (i := 107) rfl)) rfl
theorem wn_X7_areTooMany : Cond.instanceMethod yX7_areTooMany ∈ gx_U := gx_mu (gx_t_3 (List.mem_of_getElem? (i := 106) rfl)) rfl
theorem ws_X7_areTooMany : Cond.selects RX7 yX7_areTooMany yX7_areTooMany ∈ gx_U := gx_mu (gx_t_p (List.mem_of_getElem? (i := 17) rfl)) rfl
theorem lk_X7_211 : gx_lk gx_U RX7 211 RX7 yX7_areTooMany cX7_areTooMany 3 ((Option.some Jvm.ClassFile.FieldType.boolean)) 2 := ⟨gx_mu (gx_t_3 (List.mem_of_getElem? (i := 104) rfl)) rfl, wn_X7_areTooMany, ws_X7_areTooMany, wi_X7, wc_X7_areTooMany, rfl, by decide +kernel, by decide +kernel, by decide +kernel⟩
theorem lk_X7_214 : gx_lk gx_U RX7 214 RX4 yX4_give cX4_give 4 ((Option.none : Option Jvm.ClassFile.FieldType)) 2 := ⟨gx_mu (gx_t_3 (List.mem_of_getElem? (i := 108) rfl)) rfl, wn_X4_give, ws_X4_give, wi_X4, wc_X4_give, rfl, by decide +kernel, by decide +kernel, by decide +kernel⟩
theorem fl_X7_43 : gx_fl gx_U RX7 43 RX7 TX7 15 5 := ⟨iu_X7, by decide, gx_mu (gx_t_2 (List.mem_of_getElem? (i := 47) rfl)) rfl, rfl⟩
theorem wc_X2_restsBefore : Cond.code yX2_restsBefore cX2_restsBefore 3 ((Option.some Jvm.ClassFile.FieldType.boolean)) ∈ gx_U := gx_mu (gx_t_3 (List.mem_of_getElem? (i := 119) rfl)) rfl
theorem wn_X2_restsBefore : Cond.instanceMethod yX2_restsBefore ∈ gx_U := gx_mu (gx_t_3 (List.mem_of_getElem? (i := 117) rfl)) rfl
theorem ws_X2_restsBefore : Cond.selects RX2 yX2_restsBefore yX2_restsBefore ∈ gx_U := gx_mu (gx_t_3 (List.mem_of_getElem? (i := 118) rfl)) rfl
theorem lk_X7_218 : gx_lk gx_U RX7 218 RX2 yX2_restsBefore cX2_restsBefore 3 ((Option.some Jvm.ClassFile.FieldType.boolean)) 1 := ⟨gx_mu (gx_t_3 (List.mem_of_getElem? (i := 116) rfl)) rfl, wn_X2_restsBefore, ws_X2_restsBefore, wi_X2, wc_X2_restsBefore, rfl, by decide +kernel, by decide +kernel, by decide +kernel⟩
theorem wc_X2_roundsBehind : Cond.code yX2_roundsBehind cX2_roundsBehind 4 ((Option.some Jvm.ClassFile.FieldType.int)) ∈ gx_U := gx_mu (gx_t_3 (List.mem_of_getElem? (i := 126) rfl)) rfl
theorem wn_X2_roundsBehind : Cond.instanceMethod yX2_roundsBehind ∈ gx_U := gx_mu (gx_t_3 (List.mem_of_getElem? (i := 124) rfl)) rfl
theorem ws_X2_roundsBehind : Cond.selects RX2 yX2_roundsBehind yX2_roundsBehind ∈ gx_U := gx_mu (gx_t_3 (List.mem_of_getElem? (i := 125) rfl)) rfl
theorem lk_X7_222 : gx_lk gx_U RX7 222 RX2 yX2_roundsBehind cX2_roundsBehind 4 ((Option.some Jvm.ClassFile.FieldType.int)) 3 := ⟨gx_mu (gx_t_3 (List.mem_of_getElem? (i := 123) rfl)) rfl, wn_X2_roundsBehind, ws_X2_roundsBehind, wi_X2, wc_X2_roundsBehind, rfl, by decide +kernel, by decide +kernel, by decide +kernel⟩
theorem lk_X7_226 : gx_lk gx_U RX7 226 RX2 yX2_dearerFor cX2_dearerFor 2 ((Option.some Jvm.ClassFile.FieldType.int)) 1 := ⟨gx_mu (gx_t_3 (List.mem_of_getElem? (i := 128) rfl)) rfl, wn_X2_dearerFor, ws_X2_dearerFor, wi_X2, wc_X2_dearerFor, rfl, by decide +kernel, by decide +kernel, by decide +kernel⟩
theorem lk_X7_229 : gx_lk gx_U RX7 229 RX2 yX2_harmInAll cX2_harmInAll 3 ((Option.some Jvm.ClassFile.FieldType.int)) 0 := ⟨gx_mu (gx_t_3 (List.mem_of_getElem? (i := 136) rfl)) rfl, wn_X2_harmInAll, ws_X2_harmInAll, wi_X2, wc_X2_harmInAll, rfl, by decide +kernel, by decide +kernel, by decide +kernel⟩
theorem wc_X2_sortsHarmed : Cond.code yX2_sortsHarmed cX2_sortsHarmed 3 ((Option.some Jvm.ClassFile.FieldType.int)) ∈ gx_U := gx_mu (gx_t_3 (List.mem_of_getElem? (i := 145) rfl)) rfl
theorem wn_X2_sortsHarmed : Cond.instanceMethod yX2_sortsHarmed ∈ gx_U := gx_mu (gx_t_3 (List.mem_of_getElem? (i := 143) rfl)) rfl
theorem ws_X2_sortsHarmed : Cond.selects RX2 yX2_sortsHarmed yX2_sortsHarmed ∈ gx_U := gx_mu (gx_t_3 (List.mem_of_getElem? (i := 144) rfl)) rfl
theorem lk_X7_232 : gx_lk gx_U RX7 232 RX2 yX2_sortsHarmed cX2_sortsHarmed 3 ((Option.some Jvm.ClassFile.FieldType.int)) 0 := ⟨gx_mu (gx_t_3 (List.mem_of_getElem? (i := 142) rfl)) rfl, wn_X2_sortsHarmed, ws_X2_sortsHarmed, wi_X2, wc_X2_sortsHarmed, rfl, by decide +kernel, by decide +kernel, by decide +kernel⟩
theorem lk_X7_235 : gx_lk gx_U RX7 235 RX4 yX4_setOf cX4_setOf 4 ((Option.some Jvm.ClassFile.FieldType.int)) 1 := ⟨gx_mu (gx_t_3 (List.mem_of_getElem? (i := 150) rfl)) rfl, wn_X4_setOf, ws_X4_setOf, wi_X4, wc_X4_setOf, rfl, by decide +kernel, by decide +kernel, by decide +kernel⟩
theorem wc_X2_dearestWhenSold : Cond.code yX2_dearestWhenSold cX2_dearestWhenSold 8 ((Option.some Jvm.ClassFile.FieldType.int)) ∈ gx_U := gx_mu (gx_t_3 (List.mem_of_getElem? (i := 154) rfl)) rfl
theorem wn_X2_dearestWhenSold : Cond.instanceMethod yX2_dearestWhenSold ∈ gx_U := gx_mu (gx_t_3 (List.mem_of_getElem? (i := 152) rfl)) rfl
theorem ws_X2_dearestWhenSold : Cond.selects RX2 yX2_dearestWhenSold yX2_dearestWhenSold ∈ gx_U := gx_mu (gx_t_3 (List.mem_of_getElem? (i := 153) rfl)) rfl
theorem lk_X7_238 : gx_lk gx_U RX7 238 RX2 yX2_dearestWhenSold cX2_dearestWhenSold 8 ((Option.some Jvm.ClassFile.FieldType.int)) 5 := ⟨gx_mu (gx_t_3 (List.mem_of_getElem? (i := 151) rfl)) rfl, wn_X2_dearestWhenSold, ws_X2_dearestWhenSold, wi_X2, wc_X2_dearestWhenSold, rfl, by decide +kernel, by decide +kernel, by decide +kernel⟩
theorem wc_X2_harmOf : Cond.code yX2_harmOf cX2_harmOf 4 ((Option.some Jvm.ClassFile.FieldType.int)) ∈ gx_U := gx_mu (gx_t_3 (List.mem_of_getElem? (i := 163) rfl)) rfl
theorem wn_X2_harmOf : Cond.instanceMethod yX2_harmOf ∈ gx_U := gx_mu (gx_t_3 (List.mem_of_getElem? (i := 161) rfl)) rfl
theorem ws_X2_harmOf : Cond.selects RX2 yX2_harmOf yX2_harmOf ∈ gx_U := gx_mu (gx_t_3 (List.mem_of_getElem? (i := 162) rfl)) rfl
theorem lk_X7_242 : gx_lk gx_U RX7 242 RX2 yX2_harmOf cX2_harmOf 4 ((Option.some Jvm.ClassFile.FieldType.int)) 3 := ⟨gx_mu (gx_t_3 (List.mem_of_getElem? (i := 160) rfl)) rfl, wn_X2_harmOf, ws_X2_harmOf, wi_X2, wc_X2_harmOf, rfl, by decide +kernel, by decide +kernel, by decide +kernel⟩
theorem kX7_256 : Cond.constantLong RX7 256 255 ∈ gx_U := gx_mu (gx_t_3 (List.mem_of_getElem? (i := 172) rfl)) rfl
theorem wc_X7_codeAt : Cond.code yX7_codeAt cX7_codeAt 3 ((Option.some Jvm.ClassFile.FieldType.int)) ∈ gx_U := gx_mu (gx_t_3 (List.mem_of_getElem? (i := 171) rfl)) rfl
theorem wt_X7_codeAt : Cond.static yX7_codeAt ∈ gx_U := gx_mu (gx_t_3 (List.mem_of_getElem? (i := 170) rfl)) rfl
theorem lk_X7_245 : gx_lkS gx_U RX7 245 yX7_codeAt cX7_codeAt 3 ((Option.some Jvm.ClassFile.FieldType.int)) 2 := ⟨gx_mu (gx_t_3 (List.mem_of_getElem? (i := 169) rfl)) rfl, wt_X7_codeAt, wi_X7, wc_X7_codeAt, by decide +kernel, by decide +kernel, by decide +kernel⟩
theorem fl_X7_50 : gx_fl gx_U RX7 50 RX7 TX7 15 6 := ⟨iu_X7, by decide, gx_mu (gx_t_2 (List.mem_of_getElem? (i := 48) rfl)) rfl, rfl⟩
theorem fl_X7_249 : gx_fl gx_U RX7 249 RX6 TX6 2 1 := ⟨iu_X6, by decide, gx_mu (gx_t_1 (List.mem_of_getElem? (i := 221) rfl)) rfl, rfl⟩
theorem wc_X6_append : Cond.code yX6_append cX6_append 2 ((Option.none : Option Jvm.ClassFile.FieldType)) ∈ gx_U := gx_mu (gx_t_3 (List.mem_of_getElem? (i := 176) rfl)) rfl
theorem wn_X6_append : Cond.instanceMethod yX6_append ∈ gx_U := gx_mu (gx_t_3 (List.mem_of_getElem? (i := 174) rfl)) rfl
theorem ws_X6_append : Cond.selects RX6 yX6_append yX6_append ∈ gx_U := gx_mu (gx_t_3 (List.mem_of_getElem? (i := 175) rfl)) rfl
theorem lk_X7_252 : gx_lk gx_U RX7 252 RX6 yX6_append cX6_append 2 ((Option.none : Option Jvm.ClassFile.FieldType)) 1 := ⟨gx_mu (gx_t_3 (List.mem_of_getElem? (i := 173) rfl)) rfl, wn_X6_append, ws_X6_append, wi_X6, wc_X6_append, rfl, by decide +kernel, by decide +kernel, by decide +kernel⟩
theorem fl_X7_61 : gx_fl gx_U RX7 61 RX7 TX7 15 8 := ⟨iu_X7, by decide, gx_mu (gx_t_2 (List.mem_of_getElem? (i := 50) rfl)) rfl, rfl⟩
theorem lk_X7_258 : gx_lk gx_U RX7 258 RX1 yX1_firstFault cX1_firstFault 3 ((Option.some Jvm.ClassFile.FieldType.int)) 1 := ⟨gx_mu (gx_t_3 (List.mem_of_getElem? (i := 185) rfl)) rfl, wn_X1_firstFault, ws_X1_firstFault, wi_X1, wc_X1_firstFault, rfl, by decide +kernel, by decide +kernel, by decide +kernel⟩
theorem wc_X1_isTest : Cond.code yX1_isTest cX1_isTest 2 ((Option.some Jvm.ClassFile.FieldType.boolean)) ∈ gx_U := gx_mu (gx_t_3 (List.mem_of_getElem? (i := 219) rfl)) rfl
theorem wn_X1_isTest : Cond.instanceMethod yX1_isTest ∈ gx_U := gx_mu (gx_t_3 (List.mem_of_getElem? (i := 217) rfl)) rfl
theorem ws_X1_isTest : Cond.selects RX1 yX1_isTest yX1_isTest ∈ gx_U := gx_mu (gx_t_3 (List.mem_of_getElem? (i := 218) rfl)) rfl
theorem lk_X7_262 : gx_lk gx_U RX7 262 RX1 yX1_isTest cX1_isTest 2 ((Option.some Jvm.ClassFile.FieldType.boolean)) 1 := ⟨gx_mu (gx_t_3 (List.mem_of_getElem? (i := 216) rfl)) rfl, wn_X1_isTest, ws_X1_isTest, wi_X1, wc_X1_isTest, rfl, by decide +kernel, by decide +kernel, by decide +kernel⟩
theorem fl_X7_266 : gx_fl gx_U RX7 266 RX7 TX7 15 10 := ⟨iu_X7, by decide, gx_mu (gx_t_2 (List.mem_of_getElem? (i := 52) rfl)) rfl, rfl⟩
theorem fl_X7_54 : gx_fl gx_U RX7 54 RX7 TX7 15 7 := ⟨iu_X7, by decide, gx_mu (gx_t_2 (List.mem_of_getElem? (i := 49) rfl)) rfl, rfl⟩
theorem wc_X6_become : Cond.code yX6_become cX6_become 3 ((Option.none : Option Jvm.ClassFile.FieldType)) ∈ gx_U := gx_mu (gx_t_3 (List.mem_of_getElem? (i := 224) rfl)) rfl
theorem wn_X6_become : Cond.instanceMethod yX6_become ∈ gx_U := gx_mu (gx_t_3 (List.mem_of_getElem? (i := 222) rfl)) rfl
theorem ws_X6_become : Cond.selects RX6 yX6_become yX6_become ∈ gx_U := gx_mu (gx_t_3 (List.mem_of_getElem? (i := 223) rfl)) rfl
theorem lk_X7_269 : gx_lk gx_U RX7 269 RX6 yX6_become cX6_become 3 ((Option.none : Option Jvm.ClassFile.FieldType)) 1 := ⟨gx_mu (gx_t_3 (List.mem_of_getElem? (i := 221) rfl)) rfl, wn_X6_become, ws_X6_become, wi_X6, wc_X6_become, rfl, by decide +kernel, by decide +kernel, by decide +kernel⟩
theorem fl_X7_68 : gx_fl gx_U RX7 68 RX7 TX7 15 9 := ⟨iu_X7, by decide, gx_mu (gx_t_2 (List.mem_of_getElem? (i := 51) rfl)) rfl, rfl⟩
theorem wc_X3_weigh : Cond.code yX3_weigh cX3_weigh 6 ((Option.none : Option Jvm.ClassFile.FieldType)) ∈ gx_U := gx_mu (gx_t_4 (List.mem_of_getElem? (i := 0) rfl)) rfl
theorem wn_X3_weigh : Cond.instanceMethod yX3_weigh ∈ gx_U := gx_mu (gx_t_3 (List.mem_of_getElem? (i := 238) rfl)) rfl
theorem ws_X3_weigh : Cond.selects RX3 yX3_weigh yX3_weigh ∈ gx_U := gx_mu (gx_t_3 (List.mem_of_getElem? (i := 239) rfl)) rfl
theorem lk_X7_278 : gx_lk gx_U RX7 278 RX3 yX3_weigh cX3_weigh 6 ((Option.none : Option Jvm.ClassFile.FieldType)) 3 := ⟨gx_mu (gx_t_3 (List.mem_of_getElem? (i := 237) rfl)) rfl, wn_X3_weigh, ws_X3_weigh, wi_X3, wc_X3_weigh, rfl, by decide +kernel, by decide +kernel, by decide +kernel⟩
theorem wc_X3_holds : Cond.code yX3_holds cX3_holds 3 ((Option.some Jvm.ClassFile.FieldType.boolean)) ∈ gx_U := gx_mu (gx_t_4 (List.mem_of_getElem? (i := 19) rfl)) rfl
theorem wn_X3_holds : Cond.instanceMethod yX3_holds ∈ gx_U := gx_mu (gx_t_4 (List.mem_of_getElem? (i := 17) rfl)) rfl
theorem ws_X3_holds : Cond.selects RX3 yX3_holds yX3_holds ∈ gx_U := gx_mu (gx_t_4 (List.mem_of_getElem? (i := 18) rfl)) rfl
theorem lk_X7_282 : gx_lk gx_U RX7 282 RX3 yX3_holds cX3_holds 3 ((Option.some Jvm.ClassFile.FieldType.boolean)) 1 := ⟨gx_mu (gx_t_4 (List.mem_of_getElem? (i := 16) rfl)) rfl, wn_X3_holds, ws_X3_holds, wi_X3, wc_X3_holds, rfl, by decide +kernel, by decide +kernel, by decide +kernel⟩
theorem wc_X7_isNoTest : Cond.code yX7_isNoTest cX7_isNoTest 2 ((Option.some Jvm.ClassFile.FieldType.boolean)) ∈ gx_U := gx_mu (gx_t_3 (List.mem_of_getElem? (i := 232) rfl)) rfl
theorem wn_X7_isNoTest : Cond.instanceMethod yX7_isNoTest ∈ gx_U := gx_mu (gx_t_3 (List.mem_of_getElem? (i := 231) rfl)) rfl
theorem ws_X7_isNoTest : Cond.selects RX7 yX7_isNoTest yX7_isNoTest ∈ gx_U := gx_mu (gx_t_p (List.mem_of_getElem? (i := 22) rfl)) rfl
theorem lk_X7_272 : gx_lk gx_U RX7 272 RX7 yX7_isNoTest cX7_isNoTest 2 ((Option.some Jvm.ClassFile.FieldType.boolean)) 1 := ⟨gx_mu (gx_t_3 (List.mem_of_getElem? (i := 229) rfl)) rfl, wn_X7_isNoTest, ws_X7_isNoTest, wi_X7, wc_X7_isNoTest, rfl, by decide +kernel, by decide +kernel, by decide +kernel⟩
theorem wc_X7_isBarred : Cond.code yX7_isBarred cX7_isBarred 4 ((Option.some Jvm.ClassFile.FieldType.boolean)) ∈ gx_U := gx_mu (gx_t_3 (List.mem_of_getElem? (i := 236) rfl)) rfl
theorem wn_X7_isBarred : Cond.instanceMethod yX7_isBarred ∈ gx_U := gx_mu (gx_t_3 (List.mem_of_getElem? (i := 235) rfl)) rfl
theorem ws_X7_isBarred : Cond.selects RX7 yX7_isBarred yX7_isBarred ∈ gx_U := gx_mu (gx_t_p (List.mem_of_getElem? (i := 23) rfl)) rfl
theorem lk_X7_275 : gx_lk gx_U RX7 275 RX7 yX7_isBarred cX7_isBarred 4 ((Option.some Jvm.ClassFile.FieldType.boolean)) 3 := ⟨gx_mu (gx_t_3 (List.mem_of_getElem? (i := 233) rfl)) rfl, wn_X7_isBarred, ws_X7_isBarred, wi_X7, wc_X7_isBarred, rfl, by decide +kernel, by decide +kernel, by decide +kernel⟩
theorem fl_X7_285 : gx_fl gx_U RX7 285 RX7 TX7 15 11 := ⟨iu_X7, by decide, gx_mu (gx_t_2 (List.mem_of_getElem? (i := 53) rfl)) rfl, rfl⟩
theorem wc_X7_isWrong : Cond.code yX7_isWrong cX7_isWrong 3 ((Option.some Jvm.ClassFile.FieldType.boolean)) ∈ gx_U := gx_mu (gx_t_4 (List.mem_of_getElem? (i := 47) rfl)) rfl
theorem wt_X7_isWrong : Cond.static yX7_isWrong ∈ gx_U := gx_mu (gx_t_4 (List.mem_of_getElem? (i := 46) rfl)) rfl
theorem lk_X7_288 : gx_lkS gx_U RX7 288 yX7_isWrong cX7_isWrong 3 ((Option.some Jvm.ClassFile.FieldType.boolean)) 3 := ⟨gx_mu (gx_t_4 (List.mem_of_getElem? (i := 45) rfl)) rfl, wt_X7_isWrong, wi_X7, wc_X7_isWrong, by decide +kernel, by decide +kernel, by decide +kernel⟩
theorem fl_X7_28 : gx_fl gx_U RX7 28 RX7 TX7 15 3 := ⟨iu_X7, by decide, gx_mu (gx_t_2 (List.mem_of_getElem? (i := 45) rfl)) rfl, rfl⟩
theorem fl_X7_292 : gx_fl gx_U RX7 292 RX7 TX7 15 12 := ⟨iu_X7, by decide, gx_mu (gx_t_2 (List.mem_of_getElem? (i := 54) rfl)) rfl, rfl⟩
theorem fl_X7_295 : gx_fl gx_U RX7 295 RX7 TX7 15 13 := ⟨iu_X7, by decide, gx_mu (gx_t_2 (List.mem_of_getElem? (i := 55) rfl)) rfl, rfl⟩
theorem fl_X7_298 : gx_fl gx_U RX7 298 RX7 TX7 15 14 := ⟨iu_X7, by decide, gx_mu (gx_t_2 (List.mem_of_getElem? (i := 56) rfl)) rfl, rfl⟩
theorem fl_X7_301 : gx_fl gx_U RX7 301 RX4 TX4 4 3 := ⟨iu_X4, by decide, gx_mu (gx_t_1 (List.mem_of_getElem? (i := 126) rfl)) rfl, rfl⟩
theorem kX7_328 : Cond.constantLong RX7 328 31 ∈ gx_U := gx_mu (gx_t_4 (List.mem_of_getElem? (i := 72) rfl)) rfl
theorem wc_X7_mix : Cond.code yX7_mix cX7_mix 4 ((Option.some Jvm.ClassFile.FieldType.long)) ∈ gx_U := gx_mu (gx_t_4 (List.mem_of_getElem? (i := 71) rfl)) rfl
theorem wt_X7_mix : Cond.static yX7_mix ∈ gx_U := gx_mu (gx_t_4 (List.mem_of_getElem? (i := 70) rfl)) rfl
theorem lk_X7_321 : gx_lkS gx_U RX7 321 yX7_mix cX7_mix 4 ((Option.some Jvm.ClassFile.FieldType.long)) 2 := ⟨gx_mu (gx_t_4 (List.mem_of_getElem? (i := 69) rfl)) rfl, wt_X7_mix, wi_X7, wc_X7_mix, by decide +kernel, by decide +kernel, by decide +kernel⟩
theorem fl_X7_330 : gx_fl gx_U RX7 330 RX5 TX5 14 4 := ⟨iu_X5, by decide, gx_mu (gx_t_1 (List.mem_of_getElem? (i := 50) rfl)) rfl, rfl⟩
theorem wc_X7_about : Cond.code yX7_about cX7_about 3 ((Option.some Jvm.ClassFile.FieldType.int)) ∈ gx_U := gx_mu (gx_t_2 (List.mem_of_getElem? (i := 139) rfl)) rfl
theorem wn_X7_about : Cond.instanceMethod yX7_about ∈ gx_U := gx_mu (gx_t_2 (List.mem_of_getElem? (i := 137) rfl)) rfl
theorem ws_X7_about : Cond.selects RX7 yX7_about yX7_about ∈ gx_U := gx_mu (gx_t_2 (List.mem_of_getElem? (i := 138) rfl)) rfl
theorem lk_X7_333 : gx_lk gx_U RX7 333 RX7 yX7_about cX7_about 3 ((Option.some Jvm.ClassFile.FieldType.int)) 2 := ⟨gx_mu (gx_t_4 (List.mem_of_getElem? (i := 73) rfl)) rfl, wn_X7_about, ws_X7_about, wi_X7, wc_X7_about, rfl, by decide +kernel, by decide +kernel, by decide +kernel⟩
theorem fl_X7_336 : gx_fl gx_U RX7 336 RX5 TX5 14 7 := ⟨iu_X5, by decide, gx_mu (gx_t_1 (List.mem_of_getElem? (i := 59) rfl)) rfl, rfl⟩
theorem fl_X7_339 : gx_fl gx_U RX7 339 RX5 TX5 14 9 := ⟨iu_X5, by decide, gx_mu (gx_t_1 (List.mem_of_getElem? (i := 67) rfl)) rfl, rfl⟩
theorem fl_X7_342 : gx_fl gx_U RX7 342 RX5 TX5 14 10 := ⟨iu_X5, by decide, gx_mu (gx_t_1 (List.mem_of_getElem? (i := 71) rfl)) rfl, rfl⟩
theorem fl_X7_345 : gx_fl gx_U RX7 345 RX5 TX5 14 11 := ⟨iu_X5, by decide, gx_mu (gx_t_1 (List.mem_of_getElem? (i := 73) rfl)) rfl, rfl⟩
theorem fl_X7_348 : gx_fl gx_U RX7 348 RX5 TX5 14 12 := ⟨iu_X5, by decide, gx_mu (gx_t_1 (List.mem_of_getElem? (i := 75) rfl)) rfl, rfl⟩
theorem kX7_305 : Cond.constantLong RX7 305 373 ∈ gx_U := gx_mu (gx_t_4 (List.mem_of_getElem? (i := 64) rfl)) rfl
theorem wc_X7_mixStreet : Cond.code yX7_mixStreet cX7_mixStreet 7 ((Option.some Jvm.ClassFile.FieldType.long)) ∈ gx_U := gx_mu (gx_t_4 (List.mem_of_getElem? (i := 68) rfl)) rfl
theorem wn_X7_mixStreet : Cond.instanceMethod yX7_mixStreet ∈ gx_U := gx_mu (gx_t_4 (List.mem_of_getElem? (i := 67) rfl)) rfl
theorem ws_X7_mixStreet : Cond.selects RX7 yX7_mixStreet yX7_mixStreet ∈ gx_U := gx_mu (gx_t_p (List.mem_of_getElem? (i := 30) rfl)) rfl
theorem lk_X7_307 : gx_lk gx_U RX7 307 RX7 yX7_mixStreet cX7_mixStreet 7 ((Option.some Jvm.ClassFile.FieldType.long)) 1 := ⟨gx_mu (gx_t_4 (List.mem_of_getElem? (i := 65) rfl)) rfl, wn_X7_mixStreet, ws_X7_mixStreet, wi_X7, wc_X7_mixStreet, rfl, by decide +kernel, by decide +kernel, by decide +kernel⟩
theorem wc_X7_mixSorts : Cond.code yX7_mixSorts cX7_mixSorts 6 ((Option.some Jvm.ClassFile.FieldType.long)) ∈ gx_U := gx_mu (gx_t_4 (List.mem_of_getElem? (i := 77) rfl)) rfl
theorem wn_X7_mixSorts : Cond.instanceMethod yX7_mixSorts ∈ gx_U := gx_mu (gx_t_4 (List.mem_of_getElem? (i := 76) rfl)) rfl
theorem ws_X7_mixSorts : Cond.selects RX7 yX7_mixSorts yX7_mixSorts ∈ gx_U := gx_mu (gx_t_p (List.mem_of_getElem? (i := 31) rfl)) rfl
theorem lk_X7_311 : gx_lk gx_U RX7 311 RX7 yX7_mixSorts cX7_mixSorts 6 ((Option.some Jvm.ClassFile.FieldType.long)) 1 := ⟨gx_mu (gx_t_4 (List.mem_of_getElem? (i := 74) rfl)) rfl, wn_X7_mixSorts, ws_X7_mixSorts, wi_X7, wc_X7_mixSorts, rfl, by decide +kernel, by decide +kernel, by decide +kernel⟩
theorem wc_X7_mixTests : Cond.code yX7_mixTests cX7_mixTests 8 ((Option.some Jvm.ClassFile.FieldType.long)) ∈ gx_U := gx_mu (gx_t_4 (List.mem_of_getElem? (i := 81) rfl)) rfl
theorem wn_X7_mixTests : Cond.instanceMethod yX7_mixTests ∈ gx_U := gx_mu (gx_t_4 (List.mem_of_getElem? (i := 80) rfl)) rfl
theorem ws_X7_mixTests : Cond.selects RX7 yX7_mixTests yX7_mixTests ∈ gx_U := gx_mu (gx_t_p (List.mem_of_getElem? (i := 32) rfl)) rfl
theorem lk_X7_314 : gx_lk gx_U RX7 314 RX7 yX7_mixTests cX7_mixTests 8 ((Option.some Jvm.ClassFile.FieldType.long)) 1 := ⟨gx_mu (gx_t_4 (List.mem_of_getElem? (i := 78) rfl)) rfl, wn_X7_mixTests, ws_X7_mixTests, wi_X7, wc_X7_mixTests, rfl, by decide +kernel, by decide +kernel, by decide +kernel⟩
theorem fl_X7_317 : gx_fl gx_U RX7 317 RX6 TX6 2 0 := ⟨iu_X6, by decide, gx_mu (gx_t_1 (List.mem_of_getElem? (i := 217) rfl)) rfl, rfl⟩
theorem wc_X7_count : Cond.code yX7_count cX7_count 2 ((Option.some Jvm.ClassFile.FieldType.int)) ∈ gx_U := gx_mu (gx_t_4 (List.mem_of_getElem? (i := 59) rfl)) rfl
theorem wn_X7_count : Cond.instanceMethod yX7_count ∈ gx_U := gx_mu (gx_t_4 (List.mem_of_getElem? (i := 57) rfl)) rfl
theorem ws_X7_count : Cond.selects RX7 yX7_count yX7_count ∈ gx_U := gx_mu (gx_t_4 (List.mem_of_getElem? (i := 58) rfl)) rfl
theorem lk_X7_325 : gx_lk gx_U RX7 325 RX7 yX7_count cX7_count 2 ((Option.some Jvm.ClassFile.FieldType.int)) 1 := ⟨gx_mu (gx_t_4 (List.mem_of_getElem? (i := 82) rfl)) rfl, wn_X7_count, ws_X7_count, wi_X7, wc_X7_count, rfl, by decide +kernel, by decide +kernel, by decide +kernel⟩
theorem fl_X8_91 : gx_fl gx_U RX8 91 RX8 TX8 42 0 := ⟨iu_X8, by decide, gx_mu (gx_t_4 (List.mem_of_getElem? (i := 89) rfl)) rfl, rfl⟩
theorem wc_X8_within : Cond.code yX8_within cX8_within 3 ((Option.some Jvm.ClassFile.FieldType.boolean)) ∈ gx_U := gx_mu (gx_t_4 (List.mem_of_getElem? (i := 223) rfl)) rfl
theorem wi_X8 : Cond.initialized RX8 ∈ gx_U := gx_mu (gx_t_1 (List.mem_of_getElem? (i := 9) rfl)) rfl
theorem wt_X8_within : Cond.static yX8_within ∈ gx_U := gx_mu (gx_t_4 (List.mem_of_getElem? (i := 222) rfl)) rfl
theorem lk_X8_94 : gx_lkS gx_U RX8 94 yX8_within cX8_within 3 ((Option.some Jvm.ClassFile.FieldType.boolean)) 3 := ⟨gx_mu (gx_t_4 (List.mem_of_getElem? (i := 221) rfl)) rfl, wt_X8_within, wi_X8, wc_X8_within, by decide +kernel, by decide +kernel, by decide +kernel⟩
theorem fl_X8_98 : gx_fl gx_U RX8 98 RX8 TX8 42 4 := ⟨iu_X8, by decide, gx_mu (gx_t_4 (List.mem_of_getElem? (i := 93) rfl)) rfl, rfl⟩
theorem fl_X8_101 : gx_fl gx_U RX8 101 RX8 TX8 42 9 := ⟨iu_X8, by decide, gx_mu (gx_t_4 (List.mem_of_getElem? (i := 98) rfl)) rfl, rfl⟩
theorem fl_X8_7 : gx_fl gx_U RX8 7 RX8 TX8 42 1 := ⟨iu_X8, by decide, gx_mu (gx_t_4 (List.mem_of_getElem? (i := 90) rfl)) rfl, rfl⟩
theorem fl_X8_13 : gx_fl gx_U RX8 13 RX8 TX8 42 2 := ⟨iu_X8, by decide, gx_mu (gx_t_4 (List.mem_of_getElem? (i := 91) rfl)) rfl, rfl⟩
theorem fl_X8_16 : gx_fl gx_U RX8 16 RX8 TX8 42 3 := ⟨iu_X8, by decide, gx_mu (gx_t_4 (List.mem_of_getElem? (i := 92) rfl)) rfl, rfl⟩
theorem wc_X8_isOwner : Cond.code yX8_isOwner cX8_isOwner 2 ((Option.some Jvm.ClassFile.FieldType.boolean)) ∈ gx_U := gx_mu (gx_t_4 (List.mem_of_getElem? (i := 231) rfl)) rfl
theorem wn_X8_isOwner : Cond.instanceMethod yX8_isOwner ∈ gx_U := gx_mu (gx_t_4 (List.mem_of_getElem? (i := 230) rfl)) rfl
theorem ws_X8_isOwner : Cond.selects RX8 yX8_isOwner yX8_isOwner ∈ gx_U := gx_mu (gx_t_p (List.mem_of_getElem? (i := 33) rfl)) rfl
theorem lk_X8_104 : gx_lk gx_U RX8 104 RX8 yX8_isOwner cX8_isOwner 2 ((Option.some Jvm.ClassFile.FieldType.boolean)) 1 := ⟨gx_mu (gx_t_4 (List.mem_of_getElem? (i := 228) rfl)) rfl, wn_X8_isOwner, ws_X8_isOwner, wi_X8, wc_X8_isOwner, rfl, by decide +kernel, by decide +kernel, by decide +kernel⟩
theorem fl_X8_20 : gx_fl gx_U RX8 20 RX8 TX8 42 5 := ⟨iu_X8, by decide, gx_mu (gx_t_4 (List.mem_of_getElem? (i := 94) rfl)) rfl, rfl⟩
theorem wc_X8_shopsOf : Cond.code yX8_shopsOf cX8_shopsOf 4 ((Option.some Jvm.ClassFile.FieldType.int)) ∈ gx_U := gx_mu (gx_t_4 (List.mem_of_getElem? (i := 239) rfl)) rfl
theorem wn_X8_shopsOf : Cond.instanceMethod yX8_shopsOf ∈ gx_U := gx_mu (gx_t_4 (List.mem_of_getElem? (i := 238) rfl)) rfl
theorem ws_X8_shopsOf : Cond.selects RX8 yX8_shopsOf yX8_shopsOf ∈ gx_U := gx_mu (gx_t_p (List.mem_of_getElem? (i := 34) rfl)) rfl
theorem lk_X8_108 : gx_lk gx_U RX8 108 RX8 yX8_shopsOf cX8_shopsOf 4 ((Option.some Jvm.ClassFile.FieldType.int)) 1 := ⟨gx_mu (gx_t_4 (List.mem_of_getElem? (i := 236) rfl)) rfl, wn_X8_shopsOf, ws_X8_shopsOf, wi_X8, wc_X8_shopsOf, rfl, by decide +kernel, by decide +kernel, by decide +kernel⟩
theorem fl_X8_23 : gx_fl gx_U RX8 23 RX8 TX8 42 6 := ⟨iu_X8, by decide, gx_mu (gx_t_4 (List.mem_of_getElem? (i := 95) rfl)) rfl, rfl⟩
theorem fl_X8_26 : gx_fl gx_U RX8 26 RX8 TX8 42 7 := ⟨iu_X8, by decide, gx_mu (gx_t_4 (List.mem_of_getElem? (i := 96) rfl)) rfl, rfl⟩
theorem fl_X8_29 : gx_fl gx_U RX8 29 RX8 TX8 42 8 := ⟨iu_X8, by decide, gx_mu (gx_t_4 (List.mem_of_getElem? (i := 97) rfl)) rfl, rfl⟩
theorem fl_X8_54 : gx_fl gx_U RX8 54 RX8 TX8 42 23 := ⟨iu_X8, by decide, gx_mu (gx_t_4 (List.mem_of_getElem? (i := 112) rfl)) rfl, rfl⟩
theorem fl_X8_32 : gx_fl gx_U RX8 32 RX8 TX8 42 10 := ⟨iu_X8, by decide, gx_mu (gx_t_4 (List.mem_of_getElem? (i := 99) rfl)) rfl, rfl⟩
theorem wc_X8_told : Cond.code yX8_told cX8_told 3 ((Option.some Jvm.ClassFile.FieldType.int)) ∈ gx_U := gx_mu (gx_t_5 (List.mem_of_getElem? (i := 31) rfl)) rfl
theorem wn_X8_told : Cond.instanceMethod yX8_told ∈ gx_U := gx_mu (gx_t_5 (List.mem_of_getElem? (i := 30) rfl)) rfl
theorem ws_X8_told : Cond.selects RX8 yX8_told yX8_told ∈ gx_U := gx_mu (gx_t_p (List.mem_of_getElem? (i := 41) rfl)) rfl
theorem lk_X8_112 : gx_lk gx_U RX8 112 RX8 yX8_told cX8_told 3 ((Option.some Jvm.ClassFile.FieldType.int)) 2 := ⟨gx_mu (gx_t_5 (List.mem_of_getElem? (i := 28) rfl)) rfl, wn_X8_told, ws_X8_told, wi_X8, wc_X8_told, rfl, by decide +kernel, by decide +kernel, by decide +kernel⟩
theorem wc_X8_size : Cond.code yX8_size cX8_size 1 ((Option.some Jvm.ClassFile.FieldType.int)) ∈ gx_U := gx_mu (gx_t_5 (List.mem_of_getElem? (i := 34) rfl)) rfl
theorem wt_X8_size : Cond.static yX8_size ∈ gx_U := gx_mu (gx_t_5 (List.mem_of_getElem? (i := 33) rfl)) rfl
theorem lk_X8_116 : gx_lkS gx_U RX8 116 yX8_size cX8_size 1 ((Option.some Jvm.ClassFile.FieldType.int)) 1 := ⟨gx_mu (gx_t_5 (List.mem_of_getElem? (i := 32) rfl)) rfl, wt_X8_size, wi_X8, wc_X8_size, by decide +kernel, by decide +kernel, by decide +kernel⟩
theorem wc_X8_isOpen : Cond.code yX8_isOpen cX8_isOpen 2 ((Option.some Jvm.ClassFile.FieldType.boolean)) ∈ gx_U := gx_mu (gx_t_5 (List.mem_of_getElem? (i := 15) rfl)) rfl
theorem wn_X8_isOpen : Cond.instanceMethod yX8_isOpen ∈ gx_U := gx_mu (gx_t_5 (List.mem_of_getElem? (i := 14) rfl)) rfl
theorem ws_X8_isOpen : Cond.selects RX8 yX8_isOpen yX8_isOpen ∈ gx_U := gx_mu (gx_t_p (List.mem_of_getElem? (i := 37) rfl)) rfl
theorem lk_X8_119 : gx_lk gx_U RX8 119 RX8 yX8_isOpen cX8_isOpen 2 ((Option.some Jvm.ClassFile.FieldType.boolean)) 1 := ⟨gx_mu (gx_t_5 (List.mem_of_getElem? (i := 12) rfl)) rfl, wn_X8_isOpen, ws_X8_isOpen, wi_X8, wc_X8_isOpen, rfl, by decide +kernel, by decide +kernel, by decide +kernel⟩
theorem wc_X8_isTo : Cond.code yX8_isTo cX8_isTo 4 ((Option.some Jvm.ClassFile.FieldType.int)) ∈ gx_U := gx_mu (gx_t_5 (List.mem_of_getElem? (i := 27) rfl)) rfl
theorem wn_X8_isTo : Cond.instanceMethod yX8_isTo ∈ gx_U := gx_mu (gx_t_5 (List.mem_of_getElem? (i := 26) rfl)) rfl
theorem ws_X8_isTo : Cond.selects RX8 yX8_isTo yX8_isTo ∈ gx_U := gx_mu (gx_t_p (List.mem_of_getElem? (i := 40) rfl)) rfl
theorem lk_X8_122 : gx_lk gx_U RX8 122 RX8 yX8_isTo cX8_isTo 4 ((Option.some Jvm.ClassFile.FieldType.int)) 2 := ⟨gx_mu (gx_t_5 (List.mem_of_getElem? (i := 24) rfl)) rfl, wn_X8_isTo, ws_X8_isTo, wi_X8, wc_X8_isTo, rfl, by decide +kernel, by decide +kernel, by decide +kernel⟩
theorem wc_X8_goesTo : Cond.code yX8_goesTo cX8_goesTo 4 ((Option.some Jvm.ClassFile.FieldType.int)) ∈ gx_U := gx_mu (gx_t_5 (List.mem_of_getElem? (i := 23) rfl)) rfl
theorem wn_X8_goesTo : Cond.instanceMethod yX8_goesTo ∈ gx_U := gx_mu (gx_t_5 (List.mem_of_getElem? (i := 22) rfl)) rfl
theorem ws_X8_goesTo : Cond.selects RX8 yX8_goesTo yX8_goesTo ∈ gx_U := gx_mu (gx_t_p (List.mem_of_getElem? (i := 39) rfl)) rfl
theorem lk_X8_125 : gx_lk gx_U RX8 125 RX8 yX8_goesTo cX8_goesTo 4 ((Option.some Jvm.ClassFile.FieldType.int)) 1 := ⟨gx_mu (gx_t_5 (List.mem_of_getElem? (i := 20) rfl)) rfl, wn_X8_goesTo, ws_X8_goesTo, wi_X8, wc_X8_goesTo, rfl, by decide +kernel, by decide +kernel, by decide +kernel⟩
theorem fl_X8_58 : gx_fl gx_U RX8 58 RX8 TX8 42 24 := ⟨iu_X8, by decide, gx_mu (gx_t_4 (List.mem_of_getElem? (i := 113) rfl)) rfl, rfl⟩
theorem wc_X8_laySold : Cond.code yX8_laySold cX8_laySold 4 ((Option.some Jvm.ClassFile.FieldType.int)) ∈ gx_U := gx_mu (gx_t_5 (List.mem_of_getElem? (i := 19) rfl)) rfl
theorem wn_X8_laySold : Cond.instanceMethod yX8_laySold ∈ gx_U := gx_mu (gx_t_5 (List.mem_of_getElem? (i := 18) rfl)) rfl
theorem ws_X8_laySold : Cond.selects RX8 yX8_laySold yX8_laySold ∈ gx_U := gx_mu (gx_t_p (List.mem_of_getElem? (i := 38) rfl)) rfl
theorem lk_X8_128 : gx_lk gx_U RX8 128 RX8 yX8_laySold cX8_laySold 4 ((Option.some Jvm.ClassFile.FieldType.int)) 0 := ⟨gx_mu (gx_t_5 (List.mem_of_getElem? (i := 16) rfl)) rfl, wn_X8_laySold, ws_X8_laySold, wi_X8, wc_X8_laySold, rfl, by decide +kernel, by decide +kernel, by decide +kernel⟩
theorem wc_X8_isShop : Cond.code yX8_isShop cX8_isShop 2 ((Option.some Jvm.ClassFile.FieldType.boolean)) ∈ gx_U := gx_mu (gx_t_5 (List.mem_of_getElem? (i := 7) rfl)) rfl
theorem wn_X8_isShop : Cond.instanceMethod yX8_isShop ∈ gx_U := gx_mu (gx_t_5 (List.mem_of_getElem? (i := 6) rfl)) rfl
theorem ws_X8_isShop : Cond.selects RX8 yX8_isShop yX8_isShop ∈ gx_U := gx_mu (gx_t_p (List.mem_of_getElem? (i := 35) rfl)) rfl
theorem lk_X8_132 : gx_lk gx_U RX8 132 RX8 yX8_isShop cX8_isShop 2 ((Option.some Jvm.ClassFile.FieldType.boolean)) 1 := ⟨gx_mu (gx_t_5 (List.mem_of_getElem? (i := 4) rfl)) rfl, wn_X8_isShop, ws_X8_isShop, wi_X8, wc_X8_isShop, rfl, by decide +kernel, by decide +kernel, by decide +kernel⟩
theorem wc_X8_aboutOf : Cond.code yX8_aboutOf cX8_aboutOf 3 ((Option.some Jvm.ClassFile.FieldType.int)) ∈ gx_U := gx_mu (gx_t_5 (List.mem_of_getElem? (i := 11) rfl)) rfl
theorem wn_X8_aboutOf : Cond.instanceMethod yX8_aboutOf ∈ gx_U := gx_mu (gx_t_5 (List.mem_of_getElem? (i := 10) rfl)) rfl
theorem ws_X8_aboutOf : Cond.selects RX8 yX8_aboutOf yX8_aboutOf ∈ gx_U := gx_mu (gx_t_p (List.mem_of_getElem? (i := 36) rfl)) rfl
theorem lk_X8_135 : gx_lk gx_U RX8 135 RX8 yX8_aboutOf cX8_aboutOf 3 ((Option.some Jvm.ClassFile.FieldType.int)) 2 := ⟨gx_mu (gx_t_5 (List.mem_of_getElem? (i := 8) rfl)) rfl, wn_X8_aboutOf, ws_X8_aboutOf, wi_X8, wc_X8_aboutOf, rfl, by decide +kernel, by decide +kernel, by decide +kernel⟩
theorem wc_X8_isSort : Cond.code yX8_isSort cX8_isSort 2 ((Option.some Jvm.ClassFile.FieldType.boolean)) ∈ gx_U := gx_mu (gx_t_5 (List.mem_of_getElem? (i := 50) rfl)) rfl
theorem wn_X8_isSort : Cond.instanceMethod yX8_isSort ∈ gx_U := gx_mu (gx_t_5 (List.mem_of_getElem? (i := 49) rfl)) rfl
theorem ws_X8_isSort : Cond.selects RX8 yX8_isSort yX8_isSort ∈ gx_U := gx_mu (gx_t_p (List.mem_of_getElem? (i := 42) rfl)) rfl
theorem lk_X8_138 : gx_lk gx_U RX8 138 RX8 yX8_isSort cX8_isSort 2 ((Option.some Jvm.ClassFile.FieldType.boolean)) 1 := ⟨gx_mu (gx_t_5 (List.mem_of_getElem? (i := 47) rfl)) rfl, wn_X8_isSort, ws_X8_isSort, wi_X8, wc_X8_isSort, rfl, by decide +kernel, by decide +kernel, by decide +kernel⟩
theorem wc_X8_spareOf : Cond.code yX8_spareOf cX8_spareOf 3 ((Option.some Jvm.ClassFile.FieldType.int)) ∈ gx_U := gx_mu (gx_t_5 (List.mem_of_getElem? (i := 62) rfl)) rfl
theorem wn_X8_spareOf : Cond.instanceMethod yX8_spareOf ∈ gx_U := gx_mu (gx_t_5 (List.mem_of_getElem? (i := 61) rfl)) rfl
theorem ws_X8_spareOf : Cond.selects RX8 yX8_spareOf yX8_spareOf ∈ gx_U := gx_mu (gx_t_p (List.mem_of_getElem? (i := 43) rfl)) rfl
theorem lk_X8_141 : gx_lk gx_U RX8 141 RX8 yX8_spareOf cX8_spareOf 3 ((Option.some Jvm.ClassFile.FieldType.int)) 1 := ⟨gx_mu (gx_t_5 (List.mem_of_getElem? (i := 59) rfl)) rfl, wn_X8_spareOf, ws_X8_spareOf, wi_X8, wc_X8_spareOf, rfl, by decide +kernel, by decide +kernel, by decide +kernel⟩
theorem wc_X8_profitOf : Cond.code yX8_profitOf cX8_profitOf 5 ((Option.some Jvm.ClassFile.FieldType.int)) ∈ gx_U := gx_mu (gx_t_5 (List.mem_of_getElem? (i := 70) rfl)) rfl
theorem wn_X8_profitOf : Cond.instanceMethod yX8_profitOf ∈ gx_U := gx_mu (gx_t_5 (List.mem_of_getElem? (i := 69) rfl)) rfl
theorem ws_X8_profitOf : Cond.selects RX8 yX8_profitOf yX8_profitOf ∈ gx_U := gx_mu (gx_t_p (List.mem_of_getElem? (i := 44) rfl)) rfl
theorem lk_X8_144 : gx_lk gx_U RX8 144 RX8 yX8_profitOf cX8_profitOf 5 ((Option.some Jvm.ClassFile.FieldType.int)) 1 := ⟨gx_mu (gx_t_5 (List.mem_of_getElem? (i := 67) rfl)) rfl, wn_X8_profitOf, ws_X8_profitOf, wi_X8, wc_X8_profitOf, rfl, by decide +kernel, by decide +kernel, by decide +kernel⟩
theorem kX8_147 : Cond.constant RX8 147 (-1000001) ∈ gx_U := gx_mu (gx_t_5 (List.mem_of_getElem? (i := 71) rfl)) rfl
theorem fl_X8_64 : gx_fl gx_U RX8 64 RX8 TX8 42 28 := ⟨iu_X8, by decide, gx_mu (gx_t_4 (List.mem_of_getElem? (i := 117) rfl)) rfl, rfl⟩
theorem fl_X8_61 : gx_fl gx_U RX8 61 RX8 TX8 42 25 := ⟨iu_X8, by decide, gx_mu (gx_t_4 (List.mem_of_getElem? (i := 114) rfl)) rfl, rfl⟩
theorem wc_X8_layCode : Cond.code yX8_layCode cX8_layCode 7 ((Option.none : Option Jvm.ClassFile.FieldType)) ∈ gx_U := gx_mu (gx_t_5 (List.mem_of_getElem? (i := 83) rfl)) rfl
theorem wn_X8_layCode : Cond.instanceMethod yX8_layCode ∈ gx_U := gx_mu (gx_t_5 (List.mem_of_getElem? (i := 82) rfl)) rfl
theorem ws_X8_layCode : Cond.selects RX8 yX8_layCode yX8_layCode ∈ gx_U := gx_mu (gx_t_p (List.mem_of_getElem? (i := 46) rfl)) rfl
theorem lk_X8_148 : gx_lk gx_U RX8 148 RX8 yX8_layCode cX8_layCode 7 ((Option.none : Option Jvm.ClassFile.FieldType)) 4 := ⟨gx_mu (gx_t_5 (List.mem_of_getElem? (i := 80) rfl)) rfl, wn_X8_layCode, ws_X8_layCode, wi_X8, wc_X8_layCode, rfl, by decide +kernel, by decide +kernel, by decide +kernel⟩
theorem fl_X8_152 : gx_fl gx_U RX8 152 RX8 TX8 42 27 := ⟨iu_X8, by decide, gx_mu (gx_t_4 (List.mem_of_getElem? (i := 116) rfl)) rfl, rfl⟩
theorem fl_X8_155 : gx_fl gx_U RX8 155 RX8 TX8 42 26 := ⟨iu_X8, by decide, gx_mu (gx_t_4 (List.mem_of_getElem? (i := 115) rfl)) rfl, rfl⟩
theorem wc_X8_layBest : Cond.code yX8_layBest cX8_layBest 9 ((Option.none : Option Jvm.ClassFile.FieldType)) ∈ gx_U := gx_mu (gx_t_5 (List.mem_of_getElem? (i := 79) rfl)) rfl
theorem wn_X8_layBest : Cond.instanceMethod yX8_layBest ∈ gx_U := gx_mu (gx_t_5 (List.mem_of_getElem? (i := 78) rfl)) rfl
theorem ws_X8_layBest : Cond.selects RX8 yX8_layBest yX8_layBest ∈ gx_U := gx_mu (gx_t_p (List.mem_of_getElem? (i := 45) rfl)) rfl
theorem lk_X8_159 : gx_lk gx_U RX8 159 RX8 yX8_layBest cX8_layBest 9 ((Option.none : Option Jvm.ClassFile.FieldType)) 1 := ⟨gx_mu (gx_t_5 (List.mem_of_getElem? (i := 76) rfl)) rfl, wn_X8_layBest, ws_X8_layBest, wi_X8, wc_X8_layBest, rfl, by decide +kernel, by decide +kernel, by decide +kernel⟩
theorem wc_X8_turnOf : Cond.code yX8_turnOf cX8_turnOf 4 ((Option.some Jvm.ClassFile.FieldType.int)) ∈ gx_U := gx_mu (gx_t_5 (List.mem_of_getElem? (i := 91) rfl)) rfl
theorem wn_X8_turnOf : Cond.instanceMethod yX8_turnOf ∈ gx_U := gx_mu (gx_t_5 (List.mem_of_getElem? (i := 90) rfl)) rfl
theorem ws_X8_turnOf : Cond.selects RX8 yX8_turnOf yX8_turnOf ∈ gx_U := gx_mu (gx_t_p (List.mem_of_getElem? (i := 47) rfl)) rfl
theorem lk_X8_163 : gx_lk gx_U RX8 163 RX8 yX8_turnOf cX8_turnOf 4 ((Option.some Jvm.ClassFile.FieldType.int)) 1 := ⟨gx_mu (gx_t_5 (List.mem_of_getElem? (i := 88) rfl)) rfl, wn_X8_turnOf, ws_X8_turnOf, wi_X8, wc_X8_turnOf, rfl, by decide +kernel, by decide +kernel, by decide +kernel⟩
theorem fl_X8_67 : gx_fl gx_U RX8 67 RX8 TX8 42 29 := ⟨iu_X8, by decide, gx_mu (gx_t_4 (List.mem_of_getElem? (i := 118) rfl)) rfl, rfl⟩
theorem fl_X8_70 : gx_fl gx_U RX8 70 RX8 TX8 42 30 := ⟨iu_X8, by decide, gx_mu (gx_t_4 (List.mem_of_getElem? (i := 119) rfl)) rfl, rfl⟩
theorem fl_X8_73 : gx_fl gx_U RX8 73 RX8 TX8 42 31 := ⟨iu_X8, by decide, gx_mu (gx_t_4 (List.mem_of_getElem? (i := 120) rfl)) rfl, rfl⟩
theorem wc_X8_hold : Cond.code yX8_hold cX8_hold 2 ((Option.none : Option Jvm.ClassFile.FieldType)) ∈ gx_U := gx_mu (gx_t_5 (List.mem_of_getElem? (i := 99) rfl)) rfl
theorem wn_X8_hold : Cond.instanceMethod yX8_hold ∈ gx_U := gx_mu (gx_t_5 (List.mem_of_getElem? (i := 98) rfl)) rfl
theorem ws_X8_hold : Cond.selects RX8 yX8_hold yX8_hold ∈ gx_U := gx_mu (gx_t_p (List.mem_of_getElem? (i := 48) rfl)) rfl
theorem lk_X8_166 : gx_lk gx_U RX8 166 RX8 yX8_hold cX8_hold 2 ((Option.none : Option Jvm.ClassFile.FieldType)) 0 := ⟨gx_mu (gx_t_5 (List.mem_of_getElem? (i := 96) rfl)) rfl, wn_X8_hold, ws_X8_hold, wi_X8, wc_X8_hold, rfl, by decide +kernel, by decide +kernel, by decide +kernel⟩
theorem wc_X8_goOn : Cond.code yX8_goOn cX8_goOn 4 ((Option.some Jvm.ClassFile.FieldType.int)) ∈ gx_U := gx_mu (gx_t_5 (List.mem_of_getElem? (i := 103) rfl)) rfl
theorem wn_X8_goOn : Cond.instanceMethod yX8_goOn ∈ gx_U := gx_mu (gx_t_5 (List.mem_of_getElem? (i := 102) rfl)) rfl
theorem ws_X8_goOn : Cond.selects RX8 yX8_goOn yX8_goOn ∈ gx_U := gx_mu (gx_t_p (List.mem_of_getElem? (i := 49) rfl)) rfl
theorem lk_X8_169 : gx_lk gx_U RX8 169 RX8 yX8_goOn cX8_goOn 4 ((Option.some Jvm.ClassFile.FieldType.int)) 0 := ⟨gx_mu (gx_t_5 (List.mem_of_getElem? (i := 100) rfl)) rfl, wn_X8_goOn, ws_X8_goOn, wi_X8, wc_X8_goOn, rfl, by decide +kernel, by decide +kernel, by decide +kernel⟩
theorem wc_X8_back : Cond.code yX8_back cX8_back 2 ((Option.none : Option Jvm.ClassFile.FieldType)) ∈ gx_U := gx_mu (gx_t_5 (List.mem_of_getElem? (i := 107) rfl)) rfl
theorem wn_X8_back : Cond.instanceMethod yX8_back ∈ gx_U := gx_mu (gx_t_5 (List.mem_of_getElem? (i := 106) rfl)) rfl
theorem ws_X8_back : Cond.selects RX8 yX8_back yX8_back ∈ gx_U := gx_mu (gx_t_p (List.mem_of_getElem? (i := 50) rfl)) rfl
theorem lk_X8_172 : gx_lk gx_U RX8 172 RX8 yX8_back cX8_back 2 ((Option.none : Option Jvm.ClassFile.FieldType)) 0 := ⟨gx_mu (gx_t_5 (List.mem_of_getElem? (i := 104) rfl)) rfl, wn_X8_back, ws_X8_back, wi_X8, wc_X8_back, rfl, by decide +kernel, by decide +kernel, by decide +kernel⟩
theorem wc_X8_gainOf : Cond.code yX8_gainOf cX8_gainOf 3 ((Option.some Jvm.ClassFile.FieldType.int)) ∈ gx_U := gx_mu (gx_t_5 (List.mem_of_getElem? (i := 115) rfl)) rfl
theorem wn_X8_gainOf : Cond.instanceMethod yX8_gainOf ∈ gx_U := gx_mu (gx_t_5 (List.mem_of_getElem? (i := 114) rfl)) rfl
theorem ws_X8_gainOf : Cond.selects RX8 yX8_gainOf yX8_gainOf ∈ gx_U := gx_mu (gx_t_p (List.mem_of_getElem? (i := 51) rfl)) rfl
theorem lk_X8_175 : gx_lk gx_U RX8 175 RX8 yX8_gainOf cX8_gainOf 3 ((Option.some Jvm.ClassFile.FieldType.int)) 1 := ⟨gx_mu (gx_t_5 (List.mem_of_getElem? (i := 112) rfl)) rfl, wn_X8_gainOf, ws_X8_gainOf, wi_X8, wc_X8_gainOf, rfl, by decide +kernel, by decide +kernel, by decide +kernel⟩
theorem wc_X8_profitOfSet : Cond.code yX8_profitOfSet cX8_profitOfSet 4 ((Option.some Jvm.ClassFile.FieldType.int)) ∈ gx_U := gx_mu (gx_t_5 (List.mem_of_getElem? (i := 142) rfl)) rfl
theorem wn_X8_profitOfSet : Cond.instanceMethod yX8_profitOfSet ∈ gx_U := gx_mu (gx_t_5 (List.mem_of_getElem? (i := 141) rfl)) rfl
theorem ws_X8_profitOfSet : Cond.selects RX8 yX8_profitOfSet yX8_profitOfSet ∈ gx_U := gx_mu (gx_t_p (List.mem_of_getElem? (i := 55) rfl)) rfl
theorem lk_X8_178 : gx_lk gx_U RX8 178 RX8 yX8_profitOfSet cX8_profitOfSet 4 ((Option.some Jvm.ClassFile.FieldType.int)) 1 := ⟨gx_mu (gx_t_5 (List.mem_of_getElem? (i := 139) rfl)) rfl, wn_X8_profitOfSet, ws_X8_profitOfSet, wi_X8, wc_X8_profitOfSet, rfl, by decide +kernel, by decide +kernel, by decide +kernel⟩
theorem wc_X8_openSet : Cond.code yX8_openSet cX8_openSet 3 ((Option.some Jvm.ClassFile.FieldType.int)) ∈ gx_U := gx_mu (gx_t_5 (List.mem_of_getElem? (i := 131) rfl)) rfl
theorem wn_X8_openSet : Cond.instanceMethod yX8_openSet ∈ gx_U := gx_mu (gx_t_5 (List.mem_of_getElem? (i := 130) rfl)) rfl
theorem ws_X8_openSet : Cond.selects RX8 yX8_openSet yX8_openSet ∈ gx_U := gx_mu (gx_t_p (List.mem_of_getElem? (i := 53) rfl)) rfl
theorem lk_X8_181 : gx_lk gx_U RX8 181 RX8 yX8_openSet cX8_openSet 3 ((Option.some Jvm.ClassFile.FieldType.int)) 0 := ⟨gx_mu (gx_t_5 (List.mem_of_getElem? (i := 128) rfl)) rfl, wn_X8_openSet, ws_X8_openSet, wi_X8, wc_X8_openSet, rfl, by decide +kernel, by decide +kernel, by decide +kernel⟩
theorem wc_X8_pays : Cond.code yX8_pays cX8_pays 6 ((Option.some Jvm.ClassFile.FieldType.boolean)) ∈ gx_U := gx_mu (gx_t_5 (List.mem_of_getElem? (i := 138) rfl)) rfl
theorem wn_X8_pays : Cond.instanceMethod yX8_pays ∈ gx_U := gx_mu (gx_t_5 (List.mem_of_getElem? (i := 137) rfl)) rfl
theorem ws_X8_pays : Cond.selects RX8 yX8_pays yX8_pays ∈ gx_U := gx_mu (gx_t_p (List.mem_of_getElem? (i := 54) rfl)) rfl
theorem lk_X8_184 : gx_lk gx_U RX8 184 RX8 yX8_pays cX8_pays 6 ((Option.some Jvm.ClassFile.FieldType.boolean)) 2 := ⟨gx_mu (gx_t_5 (List.mem_of_getElem? (i := 135) rfl)) rfl, wn_X8_pays, ws_X8_pays, wi_X8, wc_X8_pays, rfl, by decide +kernel, by decide +kernel, by decide +kernel⟩
theorem wc_X8_ones : Cond.code yX8_ones cX8_ones 3 ((Option.some Jvm.ClassFile.FieldType.int)) ∈ gx_U := gx_mu (gx_t_5 (List.mem_of_getElem? (i := 134) rfl)) rfl
theorem wt_X8_ones : Cond.static yX8_ones ∈ gx_U := gx_mu (gx_t_5 (List.mem_of_getElem? (i := 133) rfl)) rfl
theorem lk_X8_188 : gx_lkS gx_U RX8 188 yX8_ones cX8_ones 3 ((Option.some Jvm.ClassFile.FieldType.int)) 1 := ⟨gx_mu (gx_t_5 (List.mem_of_getElem? (i := 132) rfl)) rfl, wt_X8_ones, wi_X8, wc_X8_ones, by decide +kernel, by decide +kernel, by decide +kernel⟩
theorem wc_X8_leastMarket : Cond.code yX8_leastMarket cX8_leastMarket 7 ((Option.some Jvm.ClassFile.FieldType.int)) ∈ gx_U := gx_mu (gx_t_5 (List.mem_of_getElem? (i := 127) rfl)) rfl
theorem wn_X8_leastMarket : Cond.instanceMethod yX8_leastMarket ∈ gx_U := gx_mu (gx_t_5 (List.mem_of_getElem? (i := 126) rfl)) rfl
theorem ws_X8_leastMarket : Cond.selects RX8 yX8_leastMarket yX8_leastMarket ∈ gx_U := gx_mu (gx_t_p (List.mem_of_getElem? (i := 52) rfl)) rfl
theorem lk_X8_191 : gx_lk gx_U RX8 191 RX8 yX8_leastMarket cX8_leastMarket 7 ((Option.some Jvm.ClassFile.FieldType.int)) 2 := ⟨gx_mu (gx_t_5 (List.mem_of_getElem? (i := 124) rfl)) rfl, wn_X8_leastMarket, ws_X8_leastMarket, wi_X8, wc_X8_leastMarket, rfl, by decide +kernel, by decide +kernel, by decide +kernel⟩
theorem wc_X8_nearestMarket : Cond.code yX8_nearestMarket cX8_nearestMarket 8 ((Option.some Jvm.ClassFile.FieldType.int)) ∈ gx_U := gx_mu (gx_t_5 (List.mem_of_getElem? (i := 146) rfl)) rfl
theorem wn_X8_nearestMarket : Cond.instanceMethod yX8_nearestMarket ∈ gx_U := gx_mu (gx_t_5 (List.mem_of_getElem? (i := 145) rfl)) rfl
theorem ws_X8_nearestMarket : Cond.selects RX8 yX8_nearestMarket yX8_nearestMarket ∈ gx_U := gx_mu (gx_t_p (List.mem_of_getElem? (i := 56) rfl)) rfl
theorem lk_X8_194 : gx_lk gx_U RX8 194 RX8 yX8_nearestMarket cX8_nearestMarket 8 ((Option.some Jvm.ClassFile.FieldType.int)) 2 := ⟨gx_mu (gx_t_5 (List.mem_of_getElem? (i := 143) rfl)) rfl, wn_X8_nearestMarket, ws_X8_nearestMarket, wi_X8, wc_X8_nearestMarket, rfl, by decide +kernel, by decide +kernel, by decide +kernel⟩
theorem wc_X8_insteadOf : Cond.code yX8_insteadOf cX8_insteadOf 4 ((Option.some Jvm.ClassFile.FieldType.int)) ∈ gx_U := gx_mu (gx_t_5 (List.mem_of_getElem? (i := 154) rfl)) rfl
theorem wn_X8_insteadOf : Cond.instanceMethod yX8_insteadOf ∈ gx_U := gx_mu (gx_t_5 (List.mem_of_getElem? (i := 153) rfl)) rfl
theorem ws_X8_insteadOf : Cond.selects RX8 yX8_insteadOf yX8_insteadOf ∈ gx_U := gx_mu (gx_t_p (List.mem_of_getElem? (i := 57) rfl)) rfl
theorem lk_X8_197 : gx_lk gx_U RX8 197 RX8 yX8_insteadOf cX8_insteadOf 4 ((Option.some Jvm.ClassFile.FieldType.int)) 2 := ⟨gx_mu (gx_t_5 (List.mem_of_getElem? (i := 151) rfl)) rfl, wn_X8_insteadOf, ws_X8_insteadOf, wi_X8, wc_X8_insteadOf, rfl, by decide +kernel, by decide +kernel, by decide +kernel⟩
theorem wc_X8_areTwo : Cond.code yX8_areTwo cX8_areTwo 3 ((Option.some Jvm.ClassFile.FieldType.boolean)) ∈ gx_U := gx_mu (gx_t_5 (List.mem_of_getElem? (i := 166) rfl)) rfl
theorem wn_X8_areTwo : Cond.instanceMethod yX8_areTwo ∈ gx_U := gx_mu (gx_t_5 (List.mem_of_getElem? (i := 165) rfl)) rfl
theorem ws_X8_areTwo : Cond.selects RX8 yX8_areTwo yX8_areTwo ∈ gx_U := gx_mu (gx_t_p (List.mem_of_getElem? (i := 58) rfl)) rfl
theorem lk_X8_200 : gx_lk gx_U RX8 200 RX8 yX8_areTwo cX8_areTwo 3 ((Option.some Jvm.ClassFile.FieldType.boolean)) 2 := ⟨gx_mu (gx_t_5 (List.mem_of_getElem? (i := 163) rfl)) rfl, wn_X8_areTwo, ws_X8_areTwo, wi_X8, wc_X8_areTwo, rfl, by decide +kernel, by decide +kernel, by decide +kernel⟩
theorem wc_X8_fits : Cond.code yX8_fits cX8_fits 3 ((Option.some Jvm.ClassFile.FieldType.boolean)) ∈ gx_U := gx_mu (gx_t_5 (List.mem_of_getElem? (i := 170) rfl)) rfl
theorem wn_X8_fits : Cond.instanceMethod yX8_fits ∈ gx_U := gx_mu (gx_t_5 (List.mem_of_getElem? (i := 169) rfl)) rfl
theorem ws_X8_fits : Cond.selects RX8 yX8_fits yX8_fits ∈ gx_U := gx_mu (gx_t_p (List.mem_of_getElem? (i := 59) rfl)) rfl
theorem lk_X8_203 : gx_lk gx_U RX8 203 RX8 yX8_fits cX8_fits 3 ((Option.some Jvm.ClassFile.FieldType.boolean)) 2 := ⟨gx_mu (gx_t_5 (List.mem_of_getElem? (i := 167) rfl)) rfl, wn_X8_fits, ws_X8_fits, wi_X8, wc_X8_fits, rfl, by decide +kernel, by decide +kernel, by decide +kernel⟩
theorem wc_X8_mergeNow : Cond.code yX8_mergeNow cX8_mergeNow 4 ((Option.none : Option Jvm.ClassFile.FieldType)) ∈ gx_U := gx_mu (gx_t_5 (List.mem_of_getElem? (i := 174) rfl)) rfl
theorem wn_X8_mergeNow : Cond.instanceMethod yX8_mergeNow ∈ gx_U := gx_mu (gx_t_5 (List.mem_of_getElem? (i := 173) rfl)) rfl
theorem ws_X8_mergeNow : Cond.selects RX8 yX8_mergeNow yX8_mergeNow ∈ gx_U := gx_mu (gx_t_p (List.mem_of_getElem? (i := 60) rfl)) rfl
theorem lk_X8_206 : gx_lk gx_U RX8 206 RX8 yX8_mergeNow cX8_mergeNow 4 ((Option.none : Option Jvm.ClassFile.FieldType)) 2 := ⟨gx_mu (gx_t_5 (List.mem_of_getElem? (i := 171) rfl)) rfl, wn_X8_mergeNow, ws_X8_mergeNow, wi_X8, wc_X8_mergeNow, rfl, by decide +kernel, by decide +kernel, by decide +kernel⟩
theorem fl_X8_76 : gx_fl gx_U RX8 76 RX8 TX8 42 32 := ⟨iu_X8, by decide, gx_mu (gx_t_4 (List.mem_of_getElem? (i := 121) rfl)) rfl, rfl⟩
theorem fl_X8_210 : gx_fl gx_U RX8 210 RX8 TX8 42 34 := ⟨iu_X8, by decide, gx_mu (gx_t_4 (List.mem_of_getElem? (i := 123) rfl)) rfl, rfl⟩
theorem fl_X8_79 : gx_fl gx_U RX8 79 RX8 TX8 42 33 := ⟨iu_X8, by decide, gx_mu (gx_t_4 (List.mem_of_getElem? (i := 122) rfl)) rfl, rfl⟩
theorem wc_X8_layBefore : Cond.code yX8_layBefore cX8_layBefore 3 ((Option.some Jvm.ClassFile.FieldType.boolean)) ∈ gx_U := gx_mu (gx_t_5 (List.mem_of_getElem? (i := 182) rfl)) rfl
theorem wn_X8_layBefore : Cond.instanceMethod yX8_layBefore ∈ gx_U := gx_mu (gx_t_5 (List.mem_of_getElem? (i := 181) rfl)) rfl
theorem ws_X8_layBefore : Cond.selects RX8 yX8_layBefore yX8_layBefore ∈ gx_U := gx_mu (gx_t_p (List.mem_of_getElem? (i := 61) rfl)) rfl
theorem lk_X8_213 : gx_lk gx_U RX8 213 RX8 yX8_layBefore cX8_layBefore 3 ((Option.some Jvm.ClassFile.FieldType.boolean)) 0 := ⟨gx_mu (gx_t_5 (List.mem_of_getElem? (i := 179) rfl)) rfl, wn_X8_layBefore, ws_X8_layBefore, wi_X8, wc_X8_layBefore, rfl, by decide +kernel, by decide +kernel, by decide +kernel⟩
theorem wc_X8_layBehind : Cond.code yX8_layBehind cX8_layBehind 8 ((Option.some Jvm.ClassFile.FieldType.boolean)) ∈ gx_U := gx_mu (gx_t_5 (List.mem_of_getElem? (i := 186) rfl)) rfl
theorem wn_X8_layBehind : Cond.instanceMethod yX8_layBehind ∈ gx_U := gx_mu (gx_t_5 (List.mem_of_getElem? (i := 185) rfl)) rfl
theorem ws_X8_layBehind : Cond.selects RX8 yX8_layBehind yX8_layBehind ∈ gx_U := gx_mu (gx_t_p (List.mem_of_getElem? (i := 62) rfl)) rfl
theorem lk_X8_217 : gx_lk gx_U RX8 217 RX8 yX8_layBehind cX8_layBehind 8 ((Option.some Jvm.ClassFile.FieldType.boolean)) 6 := ⟨gx_mu (gx_t_5 (List.mem_of_getElem? (i := 183) rfl)) rfl, wn_X8_layBehind, ws_X8_layBehind, wi_X8, wc_X8_layBehind, rfl, by decide +kernel, by decide +kernel, by decide +kernel⟩
theorem wc_X8_harmNow : Cond.code yX8_harmNow cX8_harmNow 6 ((Option.some Jvm.ClassFile.FieldType.int)) ∈ gx_U := gx_mu (gx_t_5 (List.mem_of_getElem? (i := 194) rfl)) rfl
theorem wn_X8_harmNow : Cond.instanceMethod yX8_harmNow ∈ gx_U := gx_mu (gx_t_5 (List.mem_of_getElem? (i := 193) rfl)) rfl
theorem ws_X8_harmNow : Cond.selects RX8 yX8_harmNow yX8_harmNow ∈ gx_U := gx_mu (gx_t_p (List.mem_of_getElem? (i := 63) rfl)) rfl
theorem lk_X8_221 : gx_lk gx_U RX8 221 RX8 yX8_harmNow cX8_harmNow 6 ((Option.some Jvm.ClassFile.FieldType.int)) 1 := ⟨gx_mu (gx_t_5 (List.mem_of_getElem? (i := 191) rfl)) rfl, wn_X8_harmNow, ws_X8_harmNow, wi_X8, wc_X8_harmNow, rfl, by decide +kernel, by decide +kernel, by decide +kernel⟩
theorem wc_X8_isBelow : Cond.code yX8_isBelow cX8_isBelow 4 ((Option.some Jvm.ClassFile.FieldType.boolean)) ∈ gx_U := gx_mu (gx_t_5 (List.mem_of_getElem? (i := 202) rfl)) rfl
theorem wn_X8_isBelow : Cond.instanceMethod yX8_isBelow ∈ gx_U := gx_mu (gx_t_5 (List.mem_of_getElem? (i := 201) rfl)) rfl
theorem ws_X8_isBelow : Cond.selects RX8 yX8_isBelow yX8_isBelow ∈ gx_U := gx_mu (gx_t_p (List.mem_of_getElem? (i := 64) rfl)) rfl
theorem lk_X8_225 : gx_lk gx_U RX8 225 RX8 yX8_isBelow cX8_isBelow 4 ((Option.some Jvm.ClassFile.FieldType.boolean)) 1 := ⟨gx_mu (gx_t_5 (List.mem_of_getElem? (i := 199) rfl)) rfl, wn_X8_isBelow, ws_X8_isBelow, wi_X8, wc_X8_isBelow, rfl, by decide +kernel, by decide +kernel, by decide +kernel⟩
theorem kX8_228 : Cond.constantLong RX8 228 255 ∈ gx_U := gx_mu (gx_t_5 (List.mem_of_getElem? (i := 211) rfl)) rfl
theorem fl_X8_230 : gx_fl gx_U RX8 230 RX8 TX8 42 14 := ⟨iu_X8, by decide, gx_mu (gx_t_4 (List.mem_of_getElem? (i := 103) rfl)) rfl, rfl⟩
theorem fl_X8_42 : gx_fl gx_U RX8 42 RX8 TX8 42 15 := ⟨iu_X8, by decide, gx_mu (gx_t_4 (List.mem_of_getElem? (i := 104) rfl)) rfl, rfl⟩
theorem wc_X8_isName : Cond.code yX8_isName cX8_isName 1 ((Option.some Jvm.ClassFile.FieldType.boolean)) ∈ gx_U := gx_mu (gx_t_5 (List.mem_of_getElem? (i := 226) rfl)) rfl
theorem wt_X8_isName : Cond.static yX8_isName ∈ gx_U := gx_mu (gx_t_5 (List.mem_of_getElem? (i := 225) rfl)) rfl
theorem lk_X8_233 : gx_lkS gx_U RX8 233 yX8_isName cX8_isName 1 ((Option.some Jvm.ClassFile.FieldType.boolean)) 1 := ⟨gx_mu (gx_t_5 (List.mem_of_getElem? (i := 224) rfl)) rfl, wt_X8_isName, wi_X8, wc_X8_isName, by decide +kernel, by decide +kernel, by decide +kernel⟩
theorem wc_X8_isDigit : Cond.code yX8_isDigit cX8_isDigit 1 ((Option.some Jvm.ClassFile.FieldType.boolean)) ∈ gx_U := gx_mu (gx_t_5 (List.mem_of_getElem? (i := 229) rfl)) rfl
theorem wt_X8_isDigit : Cond.static yX8_isDigit ∈ gx_U := gx_mu (gx_t_5 (List.mem_of_getElem? (i := 228) rfl)) rfl
theorem lk_X8_236 : gx_lkS gx_U RX8 236 yX8_isDigit cX8_isDigit 1 ((Option.some Jvm.ClassFile.FieldType.boolean)) 1 := ⟨gx_mu (gx_t_5 (List.mem_of_getElem? (i := 227) rfl)) rfl, wt_X8_isDigit, wi_X8, wc_X8_isDigit, by decide +kernel, by decide +kernel, by decide +kernel⟩
theorem fl_X8_239 : gx_fl gx_U RX8 239 RX8 TX8 42 35 := ⟨iu_X8, by decide, gx_mu (gx_t_4 (List.mem_of_getElem? (i := 124) rfl)) rfl, rfl⟩
theorem fl_X8_242 : gx_fl gx_U RX8 242 RX8 TX8 42 36 := ⟨iu_X8, by decide, gx_mu (gx_t_4 (List.mem_of_getElem? (i := 125) rfl)) rfl, rfl⟩
theorem wc_X8_readPage : Cond.code yX8_readPage cX8_readPage 7 ((Option.none : Option Jvm.ClassFile.FieldType)) ∈ gx_U := gx_mu (gx_t_5 (List.mem_of_getElem? (i := 223) rfl)) rfl
theorem wn_X8_readPage : Cond.instanceMethod yX8_readPage ∈ gx_U := gx_mu (gx_t_5 (List.mem_of_getElem? (i := 222) rfl)) rfl
theorem ws_X8_readPage : Cond.selects RX8 yX8_readPage yX8_readPage ∈ gx_U := gx_mu (gx_t_p (List.mem_of_getElem? (i := 65) rfl)) rfl
theorem lk_X8_245 : gx_lk gx_U RX8 245 RX8 yX8_readPage cX8_readPage 7 ((Option.none : Option Jvm.ClassFile.FieldType)) 0 := ⟨gx_mu (gx_t_5 (List.mem_of_getElem? (i := 220) rfl)) rfl, wn_X8_readPage, ws_X8_readPage, wi_X8, wc_X8_readPage, rfl, by decide +kernel, by decide +kernel, by decide +kernel⟩
theorem fl_X8_248 : gx_fl gx_U RX8 248 RX8 TX8 42 11 := ⟨iu_X8, by decide, gx_mu (gx_t_4 (List.mem_of_getElem? (i := 100) rfl)) rfl, rfl⟩
theorem fl_X8_35 : gx_fl gx_U RX8 35 RX8 TX8 42 12 := ⟨iu_X8, by decide, gx_mu (gx_t_4 (List.mem_of_getElem? (i := 101) rfl)) rfl, rfl⟩
theorem fl_X8_39 : gx_fl gx_U RX8 39 RX8 TX8 42 13 := ⟨iu_X8, by decide, gx_mu (gx_t_4 (List.mem_of_getElem? (i := 102) rfl)) rfl, rfl⟩
theorem wc_X8_soldBy : Cond.code yX8_soldBy cX8_soldBy 4 ((Option.some Jvm.ClassFile.FieldType.int)) ∈ gx_U := gx_mu (gx_t_6 (List.mem_of_getElem? (i := 21) rfl)) rfl
theorem wn_X8_soldBy : Cond.instanceMethod yX8_soldBy ∈ gx_U := gx_mu (gx_t_6 (List.mem_of_getElem? (i := 20) rfl)) rfl
theorem ws_X8_soldBy : Cond.selects RX8 yX8_soldBy yX8_soldBy ∈ gx_U := gx_mu (gx_t_p (List.mem_of_getElem? (i := 71) rfl)) rfl
theorem lk_X8_251 : gx_lk gx_U RX8 251 RX8 yX8_soldBy cX8_soldBy 4 ((Option.some Jvm.ClassFile.FieldType.int)) 1 := ⟨gx_mu (gx_t_6 (List.mem_of_getElem? (i := 18) rfl)) rfl, wn_X8_soldBy, ws_X8_soldBy, wi_X8, wc_X8_soldBy, rfl, by decide +kernel, by decide +kernel, by decide +kernel⟩
theorem fl_X8_254 : gx_fl gx_U RX8 254 RX8 TX8 42 40 := ⟨iu_X8, by decide, gx_mu (gx_t_4 (List.mem_of_getElem? (i := 129) rfl)) rfl, rfl⟩
theorem fl_X8_82 : gx_fl gx_U RX8 82 RX8 TX8 42 37 := ⟨iu_X8, by decide, gx_mu (gx_t_4 (List.mem_of_getElem? (i := 126) rfl)) rfl, rfl⟩
theorem fl_X8_85 : gx_fl gx_U RX8 85 RX8 TX8 42 38 := ⟨iu_X8, by decide, gx_mu (gx_t_4 (List.mem_of_getElem? (i := 127) rfl)) rfl, rfl⟩
theorem fl_X8_88 : gx_fl gx_U RX8 88 RX8 TX8 42 39 := ⟨iu_X8, by decide, gx_mu (gx_t_4 (List.mem_of_getElem? (i := 128) rfl)) rfl, rfl⟩
theorem wc_X8_openGroup : Cond.code yX8_openGroup cX8_openGroup 1 ((Option.none : Option Jvm.ClassFile.FieldType)) ∈ gx_U := gx_mu (gx_t_6 (List.mem_of_getElem? (i := 9) rfl)) rfl
theorem wn_X8_openGroup : Cond.instanceMethod yX8_openGroup ∈ gx_U := gx_mu (gx_t_6 (List.mem_of_getElem? (i := 8) rfl)) rfl
theorem ws_X8_openGroup : Cond.selects RX8 yX8_openGroup yX8_openGroup ∈ gx_U := gx_mu (gx_t_p (List.mem_of_getElem? (i := 68) rfl)) rfl
theorem lk_X8_257 : gx_lk gx_U RX8 257 RX8 yX8_openGroup cX8_openGroup 1 ((Option.none : Option Jvm.ClassFile.FieldType)) 0 := ⟨gx_mu (gx_t_6 (List.mem_of_getElem? (i := 6) rfl)) rfl, wn_X8_openGroup, ws_X8_openGroup, wi_X8, wc_X8_openGroup, rfl, by decide +kernel, by decide +kernel, by decide +kernel⟩
theorem wc_X8_factor : Cond.code yX8_factor cX8_factor 2 ((Option.none : Option Jvm.ClassFile.FieldType)) ∈ gx_U := gx_mu (gx_t_6 (List.mem_of_getElem? (i := 13) rfl)) rfl
theorem wn_X8_factor : Cond.instanceMethod yX8_factor ∈ gx_U := gx_mu (gx_t_6 (List.mem_of_getElem? (i := 12) rfl)) rfl
theorem ws_X8_factor : Cond.selects RX8 yX8_factor yX8_factor ∈ gx_U := gx_mu (gx_t_p (List.mem_of_getElem? (i := 69) rfl)) rfl
theorem lk_X8_260 : gx_lk gx_U RX8 260 RX8 yX8_factor cX8_factor 2 ((Option.none : Option Jvm.ClassFile.FieldType)) 1 := ⟨gx_mu (gx_t_6 (List.mem_of_getElem? (i := 10) rfl)) rfl, wn_X8_factor, ws_X8_factor, wi_X8, wc_X8_factor, rfl, by decide +kernel, by decide +kernel, by decide +kernel⟩
theorem wc_X8_valueOf : Cond.code yX8_valueOf cX8_valueOf 12 ((Option.some Jvm.ClassFile.FieldType.int)) ∈ gx_U := gx_mu (gx_t_6 (List.mem_of_getElem? (i := 17) rfl)) rfl
theorem wn_X8_valueOf : Cond.instanceMethod yX8_valueOf ∈ gx_U := gx_mu (gx_t_6 (List.mem_of_getElem? (i := 16) rfl)) rfl
theorem ws_X8_valueOf : Cond.selects RX8 yX8_valueOf yX8_valueOf ∈ gx_U := gx_mu (gx_t_p (List.mem_of_getElem? (i := 70) rfl)) rfl
theorem lk_X8_264 : gx_lk gx_U RX8 264 RX8 yX8_valueOf cX8_valueOf 12 ((Option.some Jvm.ClassFile.FieldType.int)) 3 := ⟨gx_mu (gx_t_6 (List.mem_of_getElem? (i := 14) rfl)) rfl, wn_X8_valueOf, ws_X8_valueOf, wi_X8, wc_X8_valueOf, rfl, by decide +kernel, by decide +kernel, by decide +kernel⟩
theorem wc_X8_isTest : Cond.code yX8_isTest cX8_isTest 2 ((Option.some Jvm.ClassFile.FieldType.boolean)) ∈ gx_U := gx_mu (gx_t_6 (List.mem_of_getElem? (i := 1) rfl)) rfl
theorem wn_X8_isTest : Cond.instanceMethod yX8_isTest ∈ gx_U := gx_mu (gx_t_6 (List.mem_of_getElem? (i := 0) rfl)) rfl
theorem ws_X8_isTest : Cond.selects RX8 yX8_isTest yX8_isTest ∈ gx_U := gx_mu (gx_t_p (List.mem_of_getElem? (i := 66) rfl)) rfl
theorem lk_X8_268 : gx_lk gx_U RX8 268 RX8 yX8_isTest cX8_isTest 2 ((Option.some Jvm.ClassFile.FieldType.boolean)) 1 := ⟨gx_mu (gx_t_5 (List.mem_of_getElem? (i := 238) rfl)) rfl, wn_X8_isTest, ws_X8_isTest, wi_X8, wc_X8_isTest, rfl, by decide +kernel, by decide +kernel, by decide +kernel⟩
theorem wc_X8_barsNow : Cond.code yX8_barsNow cX8_barsNow 9 ((Option.some Jvm.ClassFile.FieldType.boolean)) ∈ gx_U := gx_mu (gx_t_6 (List.mem_of_getElem? (i := 5) rfl)) rfl
theorem wn_X8_barsNow : Cond.instanceMethod yX8_barsNow ∈ gx_U := gx_mu (gx_t_6 (List.mem_of_getElem? (i := 4) rfl)) rfl
theorem ws_X8_barsNow : Cond.selects RX8 yX8_barsNow yX8_barsNow ∈ gx_U := gx_mu (gx_t_p (List.mem_of_getElem? (i := 67) rfl)) rfl
theorem lk_X8_271 : gx_lk gx_U RX8 271 RX8 yX8_barsNow cX8_barsNow 9 ((Option.some Jvm.ClassFile.FieldType.boolean)) 3 := ⟨gx_mu (gx_t_6 (List.mem_of_getElem? (i := 2) rfl)) rfl, wn_X8_barsNow, ws_X8_barsNow, wi_X8, wc_X8_barsNow, rfl, by decide +kernel, by decide +kernel, by decide +kernel⟩
theorem fl_X8_274 : gx_fl gx_U RX8 274 RX8 TX8 42 16 := ⟨iu_X8, by decide, gx_mu (gx_t_4 (List.mem_of_getElem? (i := 105) rfl)) rfl, rfl⟩
theorem fl_X8_277 : gx_fl gx_U RX8 277 RX8 TX8 42 17 := ⟨iu_X8, by decide, gx_mu (gx_t_4 (List.mem_of_getElem? (i := 106) rfl)) rfl, rfl⟩
theorem fl_X8_280 : gx_fl gx_U RX8 280 RX8 TX8 42 18 := ⟨iu_X8, by decide, gx_mu (gx_t_4 (List.mem_of_getElem? (i := 107) rfl)) rfl, rfl⟩
theorem fl_X8_283 : gx_fl gx_U RX8 283 RX8 TX8 42 19 := ⟨iu_X8, by decide, gx_mu (gx_t_4 (List.mem_of_getElem? (i := 108) rfl)) rfl, rfl⟩
theorem fl_X8_45 : gx_fl gx_U RX8 45 RX8 TX8 42 20 := ⟨iu_X8, by decide, gx_mu (gx_t_4 (List.mem_of_getElem? (i := 109) rfl)) rfl, rfl⟩
theorem fl_X8_48 : gx_fl gx_U RX8 48 RX8 TX8 42 21 := ⟨iu_X8, by decide, gx_mu (gx_t_4 (List.mem_of_getElem? (i := 110) rfl)) rfl, rfl⟩
theorem fl_X8_51 : gx_fl gx_U RX8 51 RX8 TX8 42 22 := ⟨iu_X8, by decide, gx_mu (gx_t_4 (List.mem_of_getElem? (i := 111) rfl)) rfl, rfl⟩
theorem wc_X8_howMany : Cond.code yX8_howMany cX8_howMany 2 ((Option.some Jvm.ClassFile.FieldType.int)) ∈ gx_U := gx_mu (gx_t_6 (List.mem_of_getElem? (i := 41) rfl)) rfl
theorem wn_X8_howMany : Cond.instanceMethod yX8_howMany ∈ gx_U := gx_mu (gx_t_6 (List.mem_of_getElem? (i := 40) rfl)) rfl
theorem ws_X8_howMany : Cond.selects RX8 yX8_howMany yX8_howMany ∈ gx_U := gx_mu (gx_t_p (List.mem_of_getElem? (i := 72) rfl)) rfl
theorem lk_X8_286 : gx_lk gx_U RX8 286 RX8 yX8_howMany cX8_howMany 2 ((Option.some Jvm.ClassFile.FieldType.int)) 1 := ⟨gx_mu (gx_t_6 (List.mem_of_getElem? (i := 38) rfl)) rfl, wn_X8_howMany, ws_X8_howMany, wi_X8, wc_X8_howMany, rfl, by decide +kernel, by decide +kernel, by decide +kernel⟩
theorem kX8_289 : Cond.constantLong RX8 289 31 ∈ gx_U := gx_mu (gx_t_6 (List.mem_of_getElem? (i := 51) rfl)) rfl
theorem fl_X8_291 : gx_fl gx_U RX8 291 RX8 TX8 42 41 := ⟨iu_X8, by decide, gx_mu (gx_t_4 (List.mem_of_getElem? (i := 130) rfl)) rfl, rfl⟩
theorem kX8_295 : Cond.constantLong RX8 295 373 ∈ gx_U := gx_mu (gx_t_6 (List.mem_of_getElem? (i := 46) rfl)) rfl
theorem wc_X8_mix : Cond.code yX8_mix cX8_mix 3 ((Option.none : Option Jvm.ClassFile.FieldType)) ∈ gx_U := gx_mu (gx_t_6 (List.mem_of_getElem? (i := 50) rfl)) rfl
theorem wn_X8_mix : Cond.instanceMethod yX8_mix ∈ gx_U := gx_mu (gx_t_6 (List.mem_of_getElem? (i := 49) rfl)) rfl
theorem ws_X8_mix : Cond.selects RX8 yX8_mix yX8_mix ∈ gx_U := gx_mu (gx_t_p (List.mem_of_getElem? (i := 73) rfl)) rfl
theorem lk_X8_297 : gx_lk gx_U RX8 297 RX8 yX8_mix cX8_mix 3 ((Option.none : Option Jvm.ClassFile.FieldType)) 1 := ⟨gx_mu (gx_t_6 (List.mem_of_getElem? (i := 47) rfl)) rfl, wn_X8_mix, ws_X8_mix, wi_X8, wc_X8_mix, rfl, by decide +kernel, by decide +kernel, by decide +kernel⟩
def xX_L (a : Nat → Nat) (ι : Nat → ClassId) : List ((Nat → Int32) → va_E) := [
  fun r => .inr (7, [.ref (a 1), .ref (a 21), .ref (a 25), .ref (a 29), .ref (a 41), .ref (a 63), .ref (a 66), .ref (a 65), .ref (a 76), .ref (a 77), .int (r 10), .int (r 11), .int (r 12), .int (r 13), .int (r 14)]),
  fun r => .inr (5, [.int (r 0), .int (r 1), .int (r 2), .ref (a 2), .ref (a 3), .ref (a 4), .ref (a 5), .ref (a 6), .ref (a 7), .ref (a 8), .ref (a 9), .ref (a 10), .ref (a 11), .ref (a 12)]),
  fun r => .inl (ι 0, 6, .inl r),
  fun r => .inl (ι 0, 6, .inl r),
  fun r => .inl (ι 0, 6, .inl r),
  fun r => .inl (ι 0, 6, .inl r),
  fun r => .inl (ι 0, 8, .inl r),
  fun r => .inl (ι 0, 8, .inl r),
  fun r => .inl (ι 0, 8, .inl r),
  fun r => .inl (ι 0, 8, .inl r),
  fun r => .inl (ι 0, 8, .inl r),
  fun r => .inl (ι 0, 8, .inl r),
  fun _ => .inl (ι 4, 8, .inr (.inr (.inr (.inr (fun j => some (a (13 + j))))))),
  fun r => .inl (ι 0, 6, .inl r),
  fun r => .inl (ι 0, 6, .inl r),
  fun r => .inl (ι 0, 6, .inl r),
  fun r => .inl (ι 0, 6, .inl r),
  fun r => .inl (ι 0, 6, .inl r),
  fun r => .inl (ι 0, 6, .inl r),
  fun r => .inl (ι 0, 6, .inl r),
  fun r => .inl (ι 0, 6, .inl r),
  fun r => .inr (4, [.ref (a 1), .ref (a 22), .ref (a 23), .ref (a 24)]),
  fun r => .inl (ι 0, 6, .inl r),
  fun r => .inl (ι 0, 6, .inl r),
  fun r => .inl (ι 1, 6, .inl r),
  fun r => .inr (4, [.ref (a 1), .ref (a 26), .ref (a 27), .ref (a 28)]),
  fun r => .inl (ι 0, 6, .inl r),
  fun r => .inl (ι 0, 6, .inl r),
  fun r => .inl (ι 1, 6, .inl r),
  fun r => .inr (4, [.ref (a 1), .ref (a 30), .ref (a 31), .ref (a 32)]),
  fun r => .inl (ι 0, 6, .inl r),
  fun r => .inl (ι 0, 6, .inl r),
  fun r => .inl (ι 1, 6, .inl r),
  fun r => .inr (4, [.ref (a 1), .ref (a 34), .ref (a 35), .ref (a 36)]),
  fun r => .inl (ι 0, 6, .inl r),
  fun r => .inl (ι 0, 6, .inl r),
  fun r => .inl (ι 1, 6, .inl r),
  fun r => .inr (4, [.ref (a 1), .ref (a 38), .ref (a 39), .ref (a 40)]),
  fun r => .inl (ι 0, 6, .inl r),
  fun r => .inl (ι 0, 6, .inl r),
  fun r => .inl (ι 1, 6, .inl r),
  fun r => .inr (0, [.ref (a 1), .ref (a 42), .ref (a 43), .ref (a 44), .ref (a 45), .int (r 5), .ref (a 46), .ref (a 51), .ref (a 56), .ref (a 61), .ref (a 62), .int (r 11), .int (r 12)]),
  fun r => .inl (ι 0, 3, .inl r),
  fun r => .inl (ι 0, 3, .inl r),
  fun r => .inl (ι 0, 3, .inl r),
  fun r => .inl (ι 0, 3, .inl r),
  fun _ => .inl (ι 4, 4, .inr (.inr (.inr (.inr (fun j => some (a (47 + j))))))),
  fun r => .inl (ι 0, 8, .inl r),
  fun r => .inl (ι 0, 8, .inl r),
  fun r => .inl (ι 0, 8, .inl r),
  fun r => .inl (ι 0, 8, .inl r),
  fun _ => .inl (ι 4, 4, .inr (.inr (.inr (.inr (fun j => some (a (52 + j))))))),
  fun r => .inl (ι 0, 8, .inl r),
  fun r => .inl (ι 0, 8, .inl r),
  fun r => .inl (ι 0, 8, .inl r),
  fun r => .inl (ι 0, 8, .inl r),
  fun _ => .inl (ι 4, 4, .inr (.inr (.inr (.inr (fun j => some (a (57 + j))))))),
  fun r => .inl (ι 0, 8, .inl r),
  fun r => .inl (ι 0, 8, .inl r),
  fun r => .inl (ι 0, 8, .inl r),
  fun r => .inl (ι 0, 8, .inl r),
  fun r => .inl (ι 0, 10, .inl r),
  fun r => .inl (ι 0, 10, .inl r),
  fun r => .inr (2, [.ref (a 1), .ref (a 41), .ref (a 33), .ref (a 37), .ref (a 64)]),
  fun r => .inl (ι 0, 8, .inl r),
  fun _ => .inl (ι 5, 4, .inr (.inr (.inr (.inr (fun j => some (a (66 + 2 * (1 + j)))))))),
  fun r => .inr (6, [.ref (a 67), .int (r 1)]),
  fun r => .inl (ι 2, 50, .inl r),
  fun r => .inr (6, [.ref (a 69), .int (r 1)]),
  fun r => .inl (ι 2, 50, .inl r),
  fun r => .inr (6, [.ref (a 71), .int (r 1)]),
  fun r => .inl (ι 2, 50, .inl r),
  fun r => .inr (6, [.ref (a 73), .int (r 1)]),
  fun r => .inl (ι 2, 50, .inl r),
  fun r => .inr (6, [.ref (a 75), .int (r 1)]),
  fun r => .inl (ι 2, 50, .inl r),
  fun r => .inr (1, [.int (r 0), .int (r 1), .int (r 2)]),
  fun r => .inr (3, [.ref (a 1), .ref (a 78), .ref (a 79), .ref (a 80), .ref (a 81), .int (r 5), .int (r 6), .int (r 7), .int (r 8), .int (r 9)]),
  fun r => .inl (ι 0, 6, .inl r),
  fun r => .inl (ι 1, 51, .inl r),
  fun r => .inl (ι 1, 51, .inl r),
  fun r => .inl (ι 1, 51, .inl r)]
def xX (a : Nat → Nat) (ι : Nat → ClassId) (k : Nat) (r : Nat → Int32) : va_E := ((xX_L a ι).getD k (fun _ => .inr (0, []))) r
abbrev wX (a : Nat → Nat) (ι : Nat → ClassId) : gx_S → va_W := gx_w 82 a (xX a ι)
theorem lt_X_ShopsAsOne : 0 < 82 := by decide
theorem oc_X_ShopsAsOne (a : Nat → Nat) (ι : Nat → ClassId) (r : Nat → Int32) : xX a ι (0) r = .inr (7, [.ref (a 1), .ref (a 21), .ref (a 25), .ref (a 29), .ref (a 41), .ref (a 63), .ref (a 66), .ref (a 65), .ref (a 76), .ref (a 77), .int (r 10), .int (r 11), .int (r 12), .int (r 13), .int (r 14)]) := rfl
theorem lt_X_Street : 1 < 82 := by decide
theorem oc_X_Street (a : Nat → Nat) (ι : Nat → ClassId) (r : Nat → Int32) : xX a ι (1) r = .inr (5, [.int (r 0), .int (r 1), .int (r 2), .ref (a 2), .ref (a 3), .ref (a 4), .ref (a 5), .ref (a 6), .ref (a 7), .ref (a 8), .ref (a 9), .ref (a 10), .ref (a 11), .ref (a 12)]) := rfl
theorem lt_X_Street_kind : 2 < 82 := by decide
theorem ac0_X_Street_kind (a : Nat → Nat) (ι : Nat → ClassId) (r : Nat → Int32) : xX a ι (2) r = .inl (ι 0, 6, .inl r) := rfl
theorem ac_X_Street_kind {cl : List vw_C} {tys : List (ClassId × FieldType)} {ι : Nat → ClassId} (hx : gx_std vwCl (gty ι) cl tys) (a : Nat → Nat) : gx_arr tys (xX a ι) (2) .int 6 := ⟨0, ι 0, by rw [hx.2]; rfl, fun r => ac0_X_Street_kind a ι r⟩
theorem lt_X_Street_n : 3 < 82 := by decide
theorem ac0_X_Street_n (a : Nat → Nat) (ι : Nat → ClassId) (r : Nat → Int32) : xX a ι (3) r = .inl (ι 0, 6, .inl r) := rfl
theorem ac_X_Street_n {cl : List vw_C} {tys : List (ClassId × FieldType)} {ι : Nat → ClassId} (hx : gx_std vwCl (gty ι) cl tys) (a : Nat → Nat) : gx_arr tys (xX a ι) (3) .int 6 := ⟨0, ι 0, by rw [hx.2]; rfl, fun r => ac0_X_Street_n a ι r⟩
theorem lt_X_Street_place : 4 < 82 := by decide
theorem ac0_X_Street_place (a : Nat → Nat) (ι : Nat → ClassId) (r : Nat → Int32) : xX a ι (4) r = .inl (ι 0, 6, .inl r) := rfl
theorem ac_X_Street_place {cl : List vw_C} {tys : List (ClassId × FieldType)} {ι : Nat → ClassId} (hx : gx_std vwCl (gty ι) cl tys) (a : Nat → Nat) : gx_arr tys (xX a ι) (4) .int 6 := ⟨0, ι 0, by rw [hx.2]; rfl, fun r => ac0_X_Street_place a ι r⟩
theorem lt_X_Street_cost : 5 < 82 := by decide
theorem ac0_X_Street_cost (a : Nat → Nat) (ι : Nat → ClassId) (r : Nat → Int32) : xX a ι (5) r = .inl (ι 0, 6, .inl r) := rfl
theorem ac_X_Street_cost {cl : List vw_C} {tys : List (ClassId × FieldType)} {ι : Nat → ClassId} (hx : gx_std vwCl (gty ι) cl tys) (a : Nat → Nat) : gx_arr tys (xX a ι) (5) .int 6 := ⟨0, ι 0, by rw [hx.2]; rfl, fun r => ac0_X_Street_cost a ι r⟩
theorem lt_X_Street_home : 6 < 82 := by decide
theorem ac0_X_Street_home (a : Nat → Nat) (ι : Nat → ClassId) (r : Nat → Int32) : xX a ι (6) r = .inl (ι 0, 8, .inl r) := rfl
theorem ac_X_Street_home {cl : List vw_C} {tys : List (ClassId × FieldType)} {ι : Nat → ClassId} (hx : gx_std vwCl (gty ι) cl tys) (a : Nat → Nat) : gx_arr tys (xX a ι) (6) .int 8 := ⟨0, ι 0, by rw [hx.2]; rfl, fun r => ac0_X_Street_home a ι r⟩
theorem lt_X_Street_many : 7 < 82 := by decide
theorem ac0_X_Street_many (a : Nat → Nat) (ι : Nat → ClassId) (r : Nat → Int32) : xX a ι (7) r = .inl (ι 0, 8, .inl r) := rfl
theorem ac_X_Street_many {cl : List vw_C} {tys : List (ClassId × FieldType)} {ι : Nat → ClassId} (hx : gx_std vwCl (gty ι) cl tys) (a : Nat → Nat) : gx_arr tys (xX a ι) (7) .int 8 := ⟨0, ι 0, by rw [hx.2]; rfl, fun r => ac0_X_Street_many a ι r⟩
theorem lt_X_Street_way : 8 < 82 := by decide
theorem ac0_X_Street_way (a : Nat → Nat) (ι : Nat → ClassId) (r : Nat → Int32) : xX a ι (8) r = .inl (ι 0, 8, .inl r) := rfl
theorem ac_X_Street_way {cl : List vw_C} {tys : List (ClassId × FieldType)} {ι : Nat → ClassId} (hx : gx_std vwCl (gty ι) cl tys) (a : Nat → Nat) : gx_arr tys (xX a ι) (8) .int 8 := ⟨0, ι 0, by rw [hx.2]; rfl, fun r => ac0_X_Street_way a ι r⟩
theorem lt_X_Street_worth : 9 < 82 := by decide
theorem ac0_X_Street_worth (a : Nat → Nat) (ι : Nat → ClassId) (r : Nat → Int32) : xX a ι (9) r = .inl (ι 0, 8, .inl r) := rfl
theorem ac_X_Street_worth {cl : List vw_C} {tys : List (ClassId × FieldType)} {ι : Nat → ClassId} (hx : gx_std vwCl (gty ι) cl tys) (a : Nat → Nat) : gx_arr tys (xX a ι) (9) .int 8 := ⟨0, ι 0, by rw [hx.2]; rfl, fun r => ac0_X_Street_worth a ι r⟩
theorem lt_X_Street_liked : 10 < 82 := by decide
theorem ac0_X_Street_liked (a : Nat → Nat) (ι : Nat → ClassId) (r : Nat → Int32) : xX a ι (10) r = .inl (ι 0, 8, .inl r) := rfl
theorem ac_X_Street_liked {cl : List vw_C} {tys : List (ClassId × FieldType)} {ι : Nat → ClassId} (hx : gx_std vwCl (gty ι) cl tys) (a : Nat → Nat) : gx_arr tys (xX a ι) (10) .int 8 := ⟨0, ι 0, by rw [hx.2]; rfl, fun r => ac0_X_Street_liked a ι r⟩
theorem lt_X_Street_liking : 11 < 82 := by decide
theorem ac0_X_Street_liking (a : Nat → Nat) (ι : Nat → ClassId) (r : Nat → Int32) : xX a ι (11) r = .inl (ι 0, 8, .inl r) := rfl
theorem ac_X_Street_liking {cl : List vw_C} {tys : List (ClassId × FieldType)} {ι : Nat → ClassId} (hx : gx_std vwCl (gty ι) cl tys) (a : Nat → Nat) : gx_arr tys (xX a ι) (11) .int 8 := ⟨0, ι 0, by rw [hx.2]; rfl, fun r => ac0_X_Street_liking a ι r⟩
theorem lt_X_Street_beside : 12 < 82 := by decide
theorem aq_X_Street_beside {cl : List vw_C} {tys : List (ClassId × FieldType)} {ι : Nat → ClassId} (hx : gx_std vwCl (gty ι) cl tys) (a : Nat → Nat) : gx_arrq tys (xX a ι) (12) (.array .int) 8 (fun j => some (a (13 + j))) := ⟨4, ι 4, by rw [hx.2]; rfl, fun _ => rfl⟩
theorem lt_X_Street_beside_row {q : Nat} (hq : q < 8) : 13 + q < 82 := by omega
theorem ac0_X_Street_beside_row (a : Nat → Nat) (ι : Nat → ClassId) (r : Nat → Int32) {q : Nat} (hq : q < 8) : xX a ι (13 + q) r = .inl (ι 0, 6, .inl r) := match q, hq with
  | 0, _ => rfl
  | 1, _ => rfl
  | 2, _ => rfl
  | 3, _ => rfl
  | 4, _ => rfl
  | 5, _ => rfl
  | 6, _ => rfl
  | 7, _ => rfl
  | q + 8, hq => absurd hq (by omega)
theorem ac_X_Street_beside_row {cl : List vw_C} {tys : List (ClassId × FieldType)} {ι : Nat → ClassId} (hx : gx_std vwCl (gty ι) cl tys) (a : Nat → Nat) {q : Nat} (hq : q < 8) : gx_arr tys (xX a ι) (13 + q) .int 6 := ⟨0, ι 0, by rw [hx.2]; rfl, fun r => ac0_X_Street_beside_row a ι r hq⟩
theorem lt_X_Standing {q : Nat} (hq : q < 5) : 21 + 4 * q < 82 := by omega
theorem oc_X_Standing (a : Nat → Nat) (ι : Nat → ClassId) (r : Nat → Int32) {q : Nat} (hq : q < 5) : xX a ι (21 + 4 * q) r = .inr (4, [.ref (a 1), .ref (a (21 + 4 * q + 1)), .ref (a (21 + 4 * q + 2)), .ref (a (21 + 4 * q + 3))]) := match q, hq with
  | 0, _ => rfl
  | 1, _ => rfl
  | 2, _ => rfl
  | 3, _ => rfl
  | 4, _ => rfl
  | q + 5, hq => absurd hq (by omega)
theorem lt_X_Standing_price {q : Nat} (hq : q < 5) : 21 + 4 * q + 1 < 82 := by omega
theorem ac0_X_Standing_price (a : Nat → Nat) (ι : Nat → ClassId) (r : Nat → Int32) {q : Nat} (hq : q < 5) : xX a ι (21 + 4 * q + 1) r = .inl (ι 0, 6, .inl r) := match q, hq with
  | 0, _ => rfl
  | 1, _ => rfl
  | 2, _ => rfl
  | 3, _ => rfl
  | 4, _ => rfl
  | q + 5, hq => absurd hq (by omega)
theorem ac_X_Standing_price {cl : List vw_C} {tys : List (ClassId × FieldType)} {ι : Nat → ClassId} (hx : gx_std vwCl (gty ι) cl tys) (a : Nat → Nat) {q : Nat} (hq : q < 5) : gx_arr tys (xX a ι) (21 + 4 * q + 1) .int 6 := ⟨0, ι 0, by rw [hx.2]; rfl, fun r => ac0_X_Standing_price a ι r hq⟩
theorem lt_X_Standing_whose {q : Nat} (hq : q < 5) : 21 + 4 * q + 2 < 82 := by omega
theorem ac0_X_Standing_whose (a : Nat → Nat) (ι : Nat → ClassId) (r : Nat → Int32) {q : Nat} (hq : q < 5) : xX a ι (21 + 4 * q + 2) r = .inl (ι 0, 6, .inl r) := match q, hq with
  | 0, _ => rfl
  | 1, _ => rfl
  | 2, _ => rfl
  | 3, _ => rfl
  | 4, _ => rfl
  | q + 5, hq => absurd hq (by omega)
theorem ac_X_Standing_whose {cl : List vw_C} {tys : List (ClassId × FieldType)} {ι : Nat → ClassId} (hx : gx_std vwCl (gty ι) cl tys) (a : Nat → Nat) {q : Nat} (hq : q < 5) : gx_arr tys (xX a ι) (21 + 4 * q + 2) .int 6 := ⟨0, ι 0, by rw [hx.2]; rfl, fun r => ac0_X_Standing_whose a ι r hq⟩
theorem lt_X_Standing_in {q : Nat} (hq : q < 5) : 21 + 4 * q + 3 < 82 := by omega
theorem ac0_X_Standing_in (a : Nat → Nat) (ι : Nat → ClassId) (r : Nat → Int32) {q : Nat} (hq : q < 5) : xX a ι (21 + 4 * q + 3) r = .inl (ι 1, 6, .inl r) := match q, hq with
  | 0, _ => rfl
  | 1, _ => rfl
  | 2, _ => rfl
  | 3, _ => rfl
  | 4, _ => rfl
  | q + 5, hq => absurd hq (by omega)
theorem ac_X_Standing_in {cl : List vw_C} {tys : List (ClassId × FieldType)} {ι : Nat → ClassId} (hx : gx_std vwCl (gty ι) cl tys) (a : Nat → Nat) {q : Nat} (hq : q < 5) : gx_arr tys (xX a ι) (21 + 4 * q + 3) .boolean 6 := ⟨1, ι 1, by rw [hx.2]; rfl, fun r => ac0_X_Standing_in a ι r hq⟩
theorem lt_X_Bests : 41 < 82 := by decide
theorem oc_X_Bests (a : Nat → Nat) (ι : Nat → ClassId) (r : Nat → Int32) : xX a ι (41) r = .inr (0, [.ref (a 1), .ref (a 42), .ref (a 43), .ref (a 44), .ref (a 45), .int (r 5), .ref (a 46), .ref (a 51), .ref (a 56), .ref (a 61), .ref (a 62), .int (r 11), .int (r 12)]) := rfl
theorem lt_X_Bests_own : 42 < 82 := by decide
theorem ac0_X_Bests_own (a : Nat → Nat) (ι : Nat → ClassId) (r : Nat → Int32) : xX a ι (42) r = .inl (ι 0, 3, .inl r) := rfl
theorem ac_X_Bests_own {cl : List vw_C} {tys : List (ClassId × FieldType)} {ι : Nat → ClassId} (hx : gx_std vwCl (gty ι) cl tys) (a : Nat → Nat) : gx_arr tys (xX a ι) (42) .int 3 := ⟨0, ι 0, by rw [hx.2]; rfl, fun r => ac0_X_Bests_own a ι r⟩
theorem lt_X_Bests_ownCost : 43 < 82 := by decide
theorem ac0_X_Bests_ownCost (a : Nat → Nat) (ι : Nat → ClassId) (r : Nat → Int32) : xX a ι (43) r = .inl (ι 0, 3, .inl r) := rfl
theorem ac_X_Bests_ownCost {cl : List vw_C} {tys : List (ClassId × FieldType)} {ι : Nat → ClassId} (hx : gx_std vwCl (gty ι) cl tys) (a : Nat → Nat) : gx_arr tys (xX a ι) (43) .int 3 := ⟨0, ι 0, by rw [hx.2]; rfl, fun r => ac0_X_Bests_ownCost a ι r⟩
theorem lt_X_Bests_tried : 44 < 82 := by decide
theorem ac0_X_Bests_tried (a : Nat → Nat) (ι : Nat → ClassId) (r : Nat → Int32) : xX a ι (44) r = .inl (ι 0, 3, .inl r) := rfl
theorem ac_X_Bests_tried {cl : List vw_C} {tys : List (ClassId × FieldType)} {ι : Nat → ClassId} (hx : gx_std vwCl (gty ι) cl tys) (a : Nat → Nat) : gx_arr tys (xX a ι) (44) .int 3 := ⟨0, ι 0, by rw [hx.2]; rfl, fun r => ac0_X_Bests_tried a ι r⟩
theorem lt_X_Bests_chosen : 45 < 82 := by decide
theorem ac0_X_Bests_chosen (a : Nat → Nat) (ι : Nat → ClassId) (r : Nat → Int32) : xX a ι (45) r = .inl (ι 0, 3, .inl r) := rfl
theorem ac_X_Bests_chosen {cl : List vw_C} {tys : List (ClassId × FieldType)} {ι : Nat → ClassId} (hx : gx_std vwCl (gty ι) cl tys) (a : Nat → Nat) : gx_arr tys (xX a ι) (45) .int 3 := ⟨0, ι 0, by rw [hx.2]; rfl, fun r => ac0_X_Bests_chosen a ι r⟩
theorem lt_X_Bests_least : 46 < 82 := by decide
theorem aq_X_Bests_least {cl : List vw_C} {tys : List (ClassId × FieldType)} {ι : Nat → ClassId} (hx : gx_std vwCl (gty ι) cl tys) (a : Nat → Nat) : gx_arrq tys (xX a ι) (46) (.array .int) 4 (fun j => some (a (47 + j))) := ⟨4, ι 4, by rw [hx.2]; rfl, fun _ => rfl⟩
theorem lt_X_Bests_least_row {q : Nat} (hq : q < 4) : 47 + q < 82 := by omega
theorem ac0_X_Bests_least_row (a : Nat → Nat) (ι : Nat → ClassId) (r : Nat → Int32) {q : Nat} (hq : q < 4) : xX a ι (47 + q) r = .inl (ι 0, 8, .inl r) := match q, hq with
  | 0, _ => rfl
  | 1, _ => rfl
  | 2, _ => rfl
  | 3, _ => rfl
  | q + 4, hq => absurd hq (by omega)
theorem ac_X_Bests_least_row {cl : List vw_C} {tys : List (ClassId × FieldType)} {ι : Nat → ClassId} (hx : gx_std vwCl (gty ι) cl tys) (a : Nat → Nat) {q : Nat} (hq : q < 4) : gx_arr tys (xX a ι) (47 + q) .int 8 := ⟨0, ι 0, by rw [hx.2]; rfl, fun r => ac0_X_Bests_least_row a ι r hq⟩
theorem lt_X_Bests_choice : 51 < 82 := by decide
theorem aq_X_Bests_choice {cl : List vw_C} {tys : List (ClassId × FieldType)} {ι : Nat → ClassId} (hx : gx_std vwCl (gty ι) cl tys) (a : Nat → Nat) : gx_arrq tys (xX a ι) (51) (.array .int) 4 (fun j => some (a (52 + j))) := ⟨4, ι 4, by rw [hx.2]; rfl, fun _ => rfl⟩
theorem lt_X_Bests_choice_row {q : Nat} (hq : q < 4) : 52 + q < 82 := by omega
theorem ac0_X_Bests_choice_row (a : Nat → Nat) (ι : Nat → ClassId) (r : Nat → Int32) {q : Nat} (hq : q < 4) : xX a ι (52 + q) r = .inl (ι 0, 8, .inl r) := match q, hq with
  | 0, _ => rfl
  | 1, _ => rfl
  | 2, _ => rfl
  | 3, _ => rfl
  | q + 4, hq => absurd hq (by omega)
theorem ac_X_Bests_choice_row {cl : List vw_C} {tys : List (ClassId × FieldType)} {ι : Nat → ClassId} (hx : gx_std vwCl (gty ι) cl tys) (a : Nat → Nat) {q : Nat} (hq : q < 4) : gx_arr tys (xX a ι) (52 + q) .int 8 := ⟨0, ι 0, by rw [hx.2]; rfl, fun r => ac0_X_Bests_choice_row a ι r hq⟩
theorem lt_X_Bests_earns : 56 < 82 := by decide
theorem aq_X_Bests_earns {cl : List vw_C} {tys : List (ClassId × FieldType)} {ι : Nat → ClassId} (hx : gx_std vwCl (gty ι) cl tys) (a : Nat → Nat) : gx_arrq tys (xX a ι) (56) (.array .int) 4 (fun j => some (a (57 + j))) := ⟨4, ι 4, by rw [hx.2]; rfl, fun _ => rfl⟩
theorem lt_X_Bests_earns_row {q : Nat} (hq : q < 4) : 57 + q < 82 := by omega
theorem ac0_X_Bests_earns_row (a : Nat → Nat) (ι : Nat → ClassId) (r : Nat → Int32) {q : Nat} (hq : q < 4) : xX a ι (57 + q) r = .inl (ι 0, 8, .inl r) := match q, hq with
  | 0, _ => rfl
  | 1, _ => rfl
  | 2, _ => rfl
  | 3, _ => rfl
  | q + 4, hq => absurd hq (by omega)
theorem ac_X_Bests_earns_row {cl : List vw_C} {tys : List (ClassId × FieldType)} {ι : Nat → ClassId} (hx : gx_std vwCl (gty ι) cl tys) (a : Nat → Nat) {q : Nat} (hq : q < 4) : gx_arr tys (xX a ι) (57 + q) .int 8 := ⟨0, ι 0, by rw [hx.2]; rfl, fun r => ac0_X_Bests_earns_row a ι r hq⟩
theorem lt_X_Bests_comers : 61 < 82 := by decide
theorem ac0_X_Bests_comers (a : Nat → Nat) (ι : Nat → ClassId) (r : Nat → Int32) : xX a ι (61) r = .inl (ι 0, 10, .inl r) := rfl
theorem ac_X_Bests_comers {cl : List vw_C} {tys : List (ClassId × FieldType)} {ι : Nat → ClassId} (hx : gx_std vwCl (gty ι) cl tys) (a : Nat → Nat) : gx_arr tys (xX a ι) (61) .int 10 := ⟨0, ι 0, by rw [hx.2]; rfl, fun r => ac0_X_Bests_comers a ι r⟩
theorem lt_X_Bests_elsewhere : 62 < 82 := by decide
theorem ac0_X_Bests_elsewhere (a : Nat → Nat) (ι : Nat → ClassId) (r : Nat → Int32) : xX a ι (62) r = .inl (ι 0, 10, .inl r) := rfl
theorem ac_X_Bests_elsewhere {cl : List vw_C} {tys : List (ClassId × FieldType)} {ι : Nat → ClassId} (hx : gx_std vwCl (gty ι) cl tys) (a : Nat → Nat) : gx_arr tys (xX a ι) (62) .int 10 := ⟨0, ι 0, by rw [hx.2]; rfl, fun r => ac0_X_Bests_elsewhere a ι r⟩
theorem lt_X_Joining : 63 < 82 := by decide
theorem oc_X_Joining (a : Nat → Nat) (ι : Nat → ClassId) (r : Nat → Int32) : xX a ι (63) r = .inr (2, [.ref (a 1), .ref (a 41), .ref (a 33), .ref (a 37), .ref (a 64)]) := rfl
theorem lt_X_Joining_spareBefore : 64 < 82 := by decide
theorem ac0_X_Joining_spareBefore (a : Nat → Nat) (ι : Nat → ClassId) (r : Nat → Int32) : xX a ι (64) r = .inl (ι 0, 8, .inl r) := rfl
theorem ac_X_Joining_spareBefore {cl : List vw_C} {tys : List (ClassId × FieldType)} {ι : Nat → ClassId} (hx : gx_std vwCl (gty ι) cl tys) (a : Nat → Nat) : gx_arr tys (xX a ι) (64) .int 8 := ⟨0, ι 0, by rw [hx.2]; rfl, fun r => ac0_X_Joining_spareBefore a ι r⟩
theorem lt_X_tests : 65 < 82 := by decide
theorem aq_X_tests {cl : List vw_C} {tys : List (ClassId × FieldType)} {ι : Nat → ClassId} (hx : gx_std vwCl (gty ι) cl tys) (a : Nat → Nat) : gx_arrq tys (xX a ι) (65) (.object "ShopsAsOne$Text") 4 (fun j => some (a (66 + 2 * (1 + j)))) := ⟨5, ι 5, by rw [hx.2]; rfl, fun _ => rfl⟩
theorem lt_X_Text {q : Nat} (hq : q < 5) : 66 + 2 * q < 82 := by omega
theorem oc_X_Text (a : Nat → Nat) (ι : Nat → ClassId) (r : Nat → Int32) {q : Nat} (hq : q < 5) : xX a ι (66 + 2 * q) r = .inr (6, [.ref (a (66 + 2 * q + 1)), .int (r 1)]) := match q, hq with
  | 0, _ => rfl
  | 1, _ => rfl
  | 2, _ => rfl
  | 3, _ => rfl
  | 4, _ => rfl
  | q + 5, hq => absurd hq (by omega)
theorem lt_X_Text_letter {q : Nat} (hq : q < 5) : 66 + 2 * q + 1 < 82 := by omega
theorem ac0_X_Text_letter (a : Nat → Nat) (ι : Nat → ClassId) (r : Nat → Int32) {q : Nat} (hq : q < 5) : xX a ι (66 + 2 * q + 1) r = .inl (ι 2, 50, .inl r) := match q, hq with
  | 0, _ => rfl
  | 1, _ => rfl
  | 2, _ => rfl
  | 3, _ => rfl
  | 4, _ => rfl
  | q + 5, hq => absurd hq (by omega)
theorem ac_X_Text_letter {cl : List vw_C} {tys : List (ClassId × FieldType)} {ι : Nat → ClassId} (hx : gx_std vwCl (gty ι) cl tys) (a : Nat → Nat) {q : Nat} (hq : q < 5) : gx_arr tys (xX a ι) (66 + 2 * q + 1) .char 50 := ⟨2, ι 2, by rw [hx.2]; rfl, fun r => ac0_X_Text_letter a ι r hq⟩
theorem lt_X_Grammar : 76 < 82 := by decide
theorem oc_X_Grammar (a : Nat → Nat) (ι : Nat → ClassId) (r : Nat → Int32) : xX a ι (76) r = .inr (1, [.int (r 0), .int (r 1), .int (r 2)]) := rfl
theorem lt_X_Judge : 77 < 82 := by decide
theorem oc_X_Judge (a : Nat → Nat) (ι : Nat → ClassId) (r : Nat → Int32) : xX a ι (77) r = .inr (3, [.ref (a 1), .ref (a 78), .ref (a 79), .ref (a 80), .ref (a 81), .int (r 5), .int (r 6), .int (r 7), .int (r 8), .int (r 9)]) := rfl
theorem lt_X_Judge_sold : 78 < 82 := by decide
theorem ac0_X_Judge_sold (a : Nat → Nat) (ι : Nat → ClassId) (r : Nat → Int32) : xX a ι (78) r = .inl (ι 0, 6, .inl r) := rfl
theorem ac_X_Judge_sold {cl : List vw_C} {tys : List (ClassId × FieldType)} {ι : Nat → ClassId} (hx : gx_std vwCl (gty ι) cl tys) (a : Nat → Nat) : gx_arr tys (xX a ι) (78) .int 6 := ⟨0, ι 0, by rw [hx.2]; rfl, fun r => ac0_X_Judge_sold a ι r⟩
theorem lt_X_Judge_any : 79 < 82 := by decide
theorem ac0_X_Judge_any (a : Nat → Nat) (ι : Nat → ClassId) (r : Nat → Int32) : xX a ι (79) r = .inl (ι 1, 51, .inl r) := rfl
theorem ac_X_Judge_any {cl : List vw_C} {tys : List (ClassId × FieldType)} {ι : Nat → ClassId} (hx : gx_std vwCl (gty ι) cl tys) (a : Nat → Nat) : gx_arr tys (xX a ι) (79) .boolean 51 := ⟨1, ι 1, by rw [hx.2]; rfl, fun r => ac0_X_Judge_any a ι r⟩
theorem lt_X_Judge_all : 80 < 82 := by decide
theorem ac0_X_Judge_all (a : Nat → Nat) (ι : Nat → ClassId) (r : Nat → Int32) : xX a ι (80) r = .inl (ι 1, 51, .inl r) := rfl
theorem ac_X_Judge_all {cl : List vw_C} {tys : List (ClassId × FieldType)} {ι : Nat → ClassId} (hx : gx_std vwCl (gty ι) cl tys) (a : Nat → Nat) : gx_arr tys (xX a ι) (80) .boolean 51 := ⟨1, ι 1, by rw [hx.2]; rfl, fun r => ac0_X_Judge_all a ι r⟩
theorem lt_X_Judge_turned : 81 < 82 := by decide
theorem ac0_X_Judge_turned (a : Nat → Nat) (ι : Nat → ClassId) (r : Nat → Int32) : xX a ι (81) r = .inl (ι 1, 51, .inl r) := rfl
theorem ac_X_Judge_turned {cl : List vw_C} {tys : List (ClassId × FieldType)} {ι : Nat → ClassId} (hx : gx_std vwCl (gty ι) cl tys) (a : Nat → Nat) : gx_arr tys (xX a ι) (81) .boolean 51 := ⟨1, ι 1, by rw [hx.2]; rfl, fun r => ac0_X_Judge_turned a ι r⟩
def xM_L (a : Nat → Nat) (ι : Nat → ClassId) : List ((Nat → Int32) → va_E) := [
  fun r => .inr (8, [.int (r 0), .ref (a 1), .ref (a 2), .ref (a 3), .int (r 4), .ref (a 4), .ref (a 5), .ref (a 6), .ref (a 7), .int (r 9), .ref (a 8), .int (r 11), .ref (a 9), .ref (a 10), .int (r 14), .ref (a 11), .int (r 16), .int (r 17), .int (r 18), .int (r 19), .ref (a 12), .ref (a 13), .ref (a 14), .int (r 23), .ref (a 15), .ref (a 16), .int (r 26), .int (r 27), .ref (a 17), .ref (a 18), .ref (a 19), .ref (a 20), .ref (a 21), .ref (a 22), .int (r 34), .int (r 35), .int (r 36), .ref (a 23), .ref (a 24), .ref (a 25), .int (r 40), .long (gx_mk (r 182) (r 183))]),
  fun r => .inl (ι 0, 6, .inl r),
  fun r => .inl (ι 0, 6, .inl r),
  fun r => .inl (ι 1, 6, .inl r),
  fun r => .inl (ι 0, 6, .inl r),
  fun r => .inl (ι 0, 6, .inl r),
  fun r => .inl (ι 0, 6, .inl r),
  fun r => .inl (ι 0, 6, .inl r),
  fun r => .inl (ι 0, 48, .inl r),
  fun r => .inl (ι 3, 200, .inl r),
  fun r => .inl (ι 0, 4, .inl r),
  fun r => .inl (ι 3, 50, .inl r),
  fun r => .inl (ι 0, 6, .inl r),
  fun r => .inl (ι 0, 6, .inl r),
  fun r => .inl (ι 1, 6, .inl r),
  fun r => .inl (ι 0, 6, .inl r),
  fun r => .inl (ι 0, 6, .inl r),
  fun r => .inl (ι 0, 6, .inl r),
  fun r => .inl (ι 0, 6, .inl r),
  fun r => .inl (ι 0, 6, .inl r),
  fun r => .inl (ι 1, 6, .inl r),
  fun r => .inl (ι 0, 8, .inl r),
  fun r => .inl (ι 0, 8, .inl r),
  fun r => .inl (ι 1, 51, .inl r),
  fun r => .inl (ι 1, 51, .inl r),
  fun r => .inl (ι 1, 51, .inl r)]
def xM (a : Nat → Nat) (ι : Nat → ClassId) (k : Nat) (r : Nat → Int32) : va_E := ((xM_L a ι).getD k (fun _ => .inr (0, []))) r
abbrev wM (a : Nat → Nat) (ι : Nat → ClassId) : gx_S → va_W := gx_w 26 a (xM a ι)
theorem lt_M_Model : 0 < 26 := by decide
theorem oc_M_Model (a : Nat → Nat) (ι : Nat → ClassId) (r : Nat → Int32) : xM a ι (0) r = .inr (8, [.int (r 0), .ref (a 1), .ref (a 2), .ref (a 3), .int (r 4), .ref (a 4), .ref (a 5), .ref (a 6), .ref (a 7), .int (r 9), .ref (a 8), .int (r 11), .ref (a 9), .ref (a 10), .int (r 14), .ref (a 11), .int (r 16), .int (r 17), .int (r 18), .int (r 19), .ref (a 12), .ref (a 13), .ref (a 14), .int (r 23), .ref (a 15), .ref (a 16), .int (r 26), .int (r 27), .ref (a 17), .ref (a 18), .ref (a 19), .ref (a 20), .ref (a 21), .ref (a 22), .int (r 34), .int (r 35), .int (r 36), .ref (a 23), .ref (a 24), .ref (a 25), .int (r 40), .long (gx_mk (r 182) (r 183))]) := rfl
theorem lt_M_M_kindOf : 1 < 26 := by decide
theorem ac0_M_M_kindOf (a : Nat → Nat) (ι : Nat → ClassId) (r : Nat → Int32) : xM a ι (1) r = .inl (ι 0, 6, .inl r) := rfl
theorem ac_M_M_kindOf {cl : List vw_C} {tys : List (ClassId × FieldType)} {ι : Nat → ClassId} (hx : gx_std vwCl (gty ι) cl tys) (a : Nat → Nat) : gx_arr tys (xM a ι) (1) .int 6 := ⟨0, ι 0, by rw [hx.2]; rfl, fun r => ac0_M_M_kindOf a ι r⟩
theorem lt_M_M_nOf : 2 < 26 := by decide
theorem ac0_M_M_nOf (a : Nat → Nat) (ι : Nat → ClassId) (r : Nat → Int32) : xM a ι (2) r = .inl (ι 0, 6, .inl r) := rfl
theorem ac_M_M_nOf {cl : List vw_C} {tys : List (ClassId × FieldType)} {ι : Nat → ClassId} (hx : gx_std vwCl (gty ι) cl tys) (a : Nat → Nat) : gx_arr tys (xM a ι) (2) .int 6 := ⟨0, ι 0, by rw [hx.2]; rfl, fun r => ac0_M_M_nOf a ι r⟩
theorem lt_M_M_isIn : 3 < 26 := by decide
theorem ac0_M_M_isIn (a : Nat → Nat) (ι : Nat → ClassId) (r : Nat → Int32) : xM a ι (3) r = .inl (ι 1, 6, .inl r) := rfl
theorem ac_M_M_isIn {cl : List vw_C} {tys : List (ClassId × FieldType)} {ι : Nat → ClassId} (hx : gx_std vwCl (gty ι) cl tys) (a : Nat → Nat) : gx_arr tys (xM a ι) (3) .boolean 6 := ⟨1, ι 1, by rw [hx.2]; rfl, fun r => ac0_M_M_isIn a ι r⟩
theorem lt_M_M_ownerOf : 4 < 26 := by decide
theorem ac0_M_M_ownerOf (a : Nat → Nat) (ι : Nat → ClassId) (r : Nat → Int32) : xM a ι (4) r = .inl (ι 0, 6, .inl r) := rfl
theorem ac_M_M_ownerOf {cl : List vw_C} {tys : List (ClassId × FieldType)} {ι : Nat → ClassId} (hx : gx_std vwCl (gty ι) cl tys) (a : Nat → Nat) : gx_arr tys (xM a ι) (4) .int 6 := ⟨0, ι 0, by rw [hx.2]; rfl, fun r => ac0_M_M_ownerOf a ι r⟩
theorem lt_M_M_placeOf : 5 < 26 := by decide
theorem ac0_M_M_placeOf (a : Nat → Nat) (ι : Nat → ClassId) (r : Nat → Int32) : xM a ι (5) r = .inl (ι 0, 6, .inl r) := rfl
theorem ac_M_M_placeOf {cl : List vw_C} {tys : List (ClassId × FieldType)} {ι : Nat → ClassId} (hx : gx_std vwCl (gty ι) cl tys) (a : Nat → Nat) : gx_arr tys (xM a ι) (5) .int 6 := ⟨0, ι 0, by rw [hx.2]; rfl, fun r => ac0_M_M_placeOf a ι r⟩
theorem lt_M_M_costOf : 6 < 26 := by decide
theorem ac0_M_M_costOf (a : Nat → Nat) (ι : Nat → ClassId) (r : Nat → Int32) : xM a ι (6) r = .inl (ι 0, 6, .inl r) := rfl
theorem ac_M_M_costOf {cl : List vw_C} {tys : List (ClassId × FieldType)} {ι : Nat → ClassId} (hx : gx_std vwCl (gty ι) cl tys) (a : Nat → Nat) : gx_arr tys (xM a ι) (6) .int 6 := ⟨0, ι 0, by rw [hx.2]; rfl, fun r => ac0_M_M_costOf a ι r⟩
theorem lt_M_M_priceOf : 7 < 26 := by decide
theorem ac0_M_M_priceOf (a : Nat → Nat) (ι : Nat → ClassId) (r : Nat → Int32) : xM a ι (7) r = .inl (ι 0, 6, .inl r) := rfl
theorem ac_M_M_priceOf {cl : List vw_C} {tys : List (ClassId × FieldType)} {ι : Nat → ClassId} (hx : gx_std vwCl (gty ι) cl tys) (a : Nat → Nat) : gx_arr tys (xM a ι) (7) .int 6 := ⟨0, ι 0, by rw [hx.2]; rfl, fun r => ac0_M_M_priceOf a ι r⟩
theorem lt_M_M_sortOf : 8 < 26 := by decide
theorem ac0_M_M_sortOf (a : Nat → Nat) (ι : Nat → ClassId) (r : Nat → Int32) : xM a ι (8) r = .inl (ι 0, 48, .inl r) := rfl
theorem ac_M_M_sortOf {cl : List vw_C} {tys : List (ClassId × FieldType)} {ι : Nat → ClassId} (hx : gx_std vwCl (gty ι) cl tys) (a : Nat → Nat) : gx_arr tys (xM a ι) (8) .int 48 := ⟨0, ι 0, by rw [hx.2]; rfl, fun r => ac0_M_M_sortOf a ι r⟩
theorem lt_M_M_testText : 9 < 26 := by decide
theorem ac0_M_M_testText (a : Nat → Nat) (ι : Nat → ClassId) (r : Nat → Int32) : xM a ι (9) r = .inl (ι 3, 200, .inl r) := rfl
theorem ac_M_M_testText {cl : List vw_C} {tys : List (ClassId × FieldType)} {ι : Nat → ClassId} (hx : gx_std vwCl (gty ι) cl tys) (a : Nat → Nat) : gx_arr tys (xM a ι) (9) .byte 200 := ⟨3, ι 3, by rw [hx.2]; rfl, fun r => ac0_M_M_testText a ι r⟩
theorem lt_M_M_testSize : 10 < 26 := by decide
theorem ac0_M_M_testSize (a : Nat → Nat) (ι : Nat → ClassId) (r : Nat → Int32) : xM a ι (10) r = .inl (ι 0, 4, .inl r) := rfl
theorem ac_M_M_testSize {cl : List vw_C} {tys : List (ClassId × FieldType)} {ι : Nat → ClassId} (hx : gx_std vwCl (gty ι) cl tys) (a : Nat → Nat) : gx_arr tys (xM a ι) (10) .int 4 := ⟨0, ι 0, by rw [hx.2]; rfl, fun r => ac0_M_M_testSize a ι r⟩
theorem lt_M_M_page : 11 < 26 := by decide
theorem ac0_M_M_page (a : Nat → Nat) (ι : Nat → ClassId) (r : Nat → Int32) : xM a ι (11) r = .inl (ι 3, 50, .inl r) := rfl
theorem ac_M_M_page {cl : List vw_C} {tys : List (ClassId × FieldType)} {ι : Nat → ClassId} (hx : gx_std vwCl (gty ι) cl tys) (a : Nat → Nat) : gx_arr tys (xM a ι) (11) .byte 50 := ⟨3, ι 3, by rw [hx.2]; rfl, fun r => ac0_M_M_page a ι r⟩
theorem lt_M_M_keptPrice : 12 < 26 := by decide
theorem ac0_M_M_keptPrice (a : Nat → Nat) (ι : Nat → ClassId) (r : Nat → Int32) : xM a ι (12) r = .inl (ι 0, 6, .inl r) := rfl
theorem ac_M_M_keptPrice {cl : List vw_C} {tys : List (ClassId × FieldType)} {ι : Nat → ClassId} (hx : gx_std vwCl (gty ι) cl tys) (a : Nat → Nat) : gx_arr tys (xM a ι) (12) .int 6 := ⟨0, ι 0, by rw [hx.2]; rfl, fun r => ac0_M_M_keptPrice a ι r⟩
theorem lt_M_M_keptOwner : 13 < 26 := by decide
theorem ac0_M_M_keptOwner (a : Nat → Nat) (ι : Nat → ClassId) (r : Nat → Int32) : xM a ι (13) r = .inl (ι 0, 6, .inl r) := rfl
theorem ac_M_M_keptOwner {cl : List vw_C} {tys : List (ClassId × FieldType)} {ι : Nat → ClassId} (hx : gx_std vwCl (gty ι) cl tys) (a : Nat → Nat) : gx_arr tys (xM a ι) (13) .int 6 := ⟨0, ι 0, by rw [hx.2]; rfl, fun r => ac0_M_M_keptOwner a ι r⟩
theorem lt_M_M_keptIn : 14 < 26 := by decide
theorem ac0_M_M_keptIn (a : Nat → Nat) (ι : Nat → ClassId) (r : Nat → Int32) : xM a ι (14) r = .inl (ι 1, 6, .inl r) := rfl
theorem ac_M_M_keptIn {cl : List vw_C} {tys : List (ClassId × FieldType)} {ι : Nat → ClassId} (hx : gx_std vwCl (gty ι) cl tys) (a : Nat → Nat) : gx_arr tys (xM a ι) (14) .boolean 6 := ⟨1, ι 1, by rw [hx.2]; rfl, fun r => ac0_M_M_keptIn a ι r⟩
theorem lt_M_M_soldNow : 15 < 26 := by decide
theorem ac0_M_M_soldNow (a : Nat → Nat) (ι : Nat → ClassId) (r : Nat → Int32) : xM a ι (15) r = .inl (ι 0, 6, .inl r) := rfl
theorem ac_M_M_soldNow {cl : List vw_C} {tys : List (ClassId × FieldType)} {ι : Nat → ClassId} (hx : gx_std vwCl (gty ι) cl tys) (a : Nat → Nat) : gx_arr tys (xM a ι) (15) .int 6 := ⟨0, ι 0, by rw [hx.2]; rfl, fun r => ac0_M_M_soldNow a ι r⟩
theorem lt_M_M_bestPrice : 16 < 26 := by decide
theorem ac0_M_M_bestPrice (a : Nat → Nat) (ι : Nat → ClassId) (r : Nat → Int32) : xM a ι (16) r = .inl (ι 0, 6, .inl r) := rfl
theorem ac_M_M_bestPrice {cl : List vw_C} {tys : List (ClassId × FieldType)} {ι : Nat → ClassId} (hx : gx_std vwCl (gty ι) cl tys) (a : Nat → Nat) : gx_arr tys (xM a ι) (16) .int 6 := ⟨0, ι 0, by rw [hx.2]; rfl, fun r => ac0_M_M_bestPrice a ι r⟩
theorem lt_M_M_tried : 17 < 26 := by decide
theorem ac0_M_M_tried (a : Nat → Nat) (ι : Nat → ClassId) (r : Nat → Int32) : xM a ι (17) r = .inl (ι 0, 6, .inl r) := rfl
theorem ac_M_M_tried {cl : List vw_C} {tys : List (ClassId × FieldType)} {ι : Nat → ClassId} (hx : gx_std vwCl (gty ι) cl tys) (a : Nat → Nat) : gx_arr tys (xM a ι) (17) .int 6 := ⟨0, ι 0, by rw [hx.2]; rfl, fun r => ac0_M_M_tried a ι r⟩
theorem lt_M_M_wasPrice : 18 < 26 := by decide
theorem ac0_M_M_wasPrice (a : Nat → Nat) (ι : Nat → ClassId) (r : Nat → Int32) : xM a ι (18) r = .inl (ι 0, 6, .inl r) := rfl
theorem ac_M_M_wasPrice {cl : List vw_C} {tys : List (ClassId × FieldType)} {ι : Nat → ClassId} (hx : gx_std vwCl (gty ι) cl tys) (a : Nat → Nat) : gx_arr tys (xM a ι) (18) .int 6 := ⟨0, ι 0, by rw [hx.2]; rfl, fun r => ac0_M_M_wasPrice a ι r⟩
theorem lt_M_M_wasOwner : 19 < 26 := by decide
theorem ac0_M_M_wasOwner (a : Nat → Nat) (ι : Nat → ClassId) (r : Nat → Int32) : xM a ι (19) r = .inl (ι 0, 6, .inl r) := rfl
theorem ac_M_M_wasOwner {cl : List vw_C} {tys : List (ClassId × FieldType)} {ι : Nat → ClassId} (hx : gx_std vwCl (gty ι) cl tys) (a : Nat → Nat) : gx_arr tys (xM a ι) (19) .int 6 := ⟨0, ι 0, by rw [hx.2]; rfl, fun r => ac0_M_M_wasOwner a ι r⟩
theorem lt_M_M_wasIn : 20 < 26 := by decide
theorem ac0_M_M_wasIn (a : Nat → Nat) (ι : Nat → ClassId) (r : Nat → Int32) : xM a ι (20) r = .inl (ι 1, 6, .inl r) := rfl
theorem ac_M_M_wasIn {cl : List vw_C} {tys : List (ClassId × FieldType)} {ι : Nat → ClassId} (hx : gx_std vwCl (gty ι) cl tys) (a : Nat → Nat) : gx_arr tys (xM a ι) (20) .boolean 6 := ⟨1, ι 1, by rw [hx.2]; rfl, fun r => ac0_M_M_wasIn a ι r⟩
theorem lt_M_M_spareBefore : 21 < 26 := by decide
theorem ac0_M_M_spareBefore (a : Nat → Nat) (ι : Nat → ClassId) (r : Nat → Int32) : xM a ι (21) r = .inl (ι 0, 8, .inl r) := rfl
theorem ac_M_M_spareBefore {cl : List vw_C} {tys : List (ClassId × FieldType)} {ι : Nat → ClassId} (hx : gx_std vwCl (gty ι) cl tys) (a : Nat → Nat) : gx_arr tys (xM a ι) (21) .int 8 := ⟨0, ι 0, by rw [hx.2]; rfl, fun r => ac0_M_M_spareBefore a ι r⟩
theorem lt_M_M_spareBehind : 22 < 26 := by decide
theorem ac0_M_M_spareBehind (a : Nat → Nat) (ι : Nat → ClassId) (r : Nat → Int32) : xM a ι (22) r = .inl (ι 0, 8, .inl r) := rfl
theorem ac_M_M_spareBehind {cl : List vw_C} {tys : List (ClassId × FieldType)} {ι : Nat → ClassId} (hx : gx_std vwCl (gty ι) cl tys) (a : Nat → Nat) : gx_arr tys (xM a ι) (22) .int 8 := ⟨0, ι 0, by rw [hx.2]; rfl, fun r => ac0_M_M_spareBehind a ι r⟩
theorem lt_M_M_anyTerm : 23 < 26 := by decide
theorem ac0_M_M_anyTerm (a : Nat → Nat) (ι : Nat → ClassId) (r : Nat → Int32) : xM a ι (23) r = .inl (ι 1, 51, .inl r) := rfl
theorem ac_M_M_anyTerm {cl : List vw_C} {tys : List (ClassId × FieldType)} {ι : Nat → ClassId} (hx : gx_std vwCl (gty ι) cl tys) (a : Nat → Nat) : gx_arr tys (xM a ι) (23) .boolean 51 := ⟨1, ι 1, by rw [hx.2]; rfl, fun r => ac0_M_M_anyTerm a ι r⟩
theorem lt_M_M_allFactors : 24 < 26 := by decide
theorem ac0_M_M_allFactors (a : Nat → Nat) (ι : Nat → ClassId) (r : Nat → Int32) : xM a ι (24) r = .inl (ι 1, 51, .inl r) := rfl
theorem ac_M_M_allFactors {cl : List vw_C} {tys : List (ClassId × FieldType)} {ι : Nat → ClassId} (hx : gx_std vwCl (gty ι) cl tys) (a : Nat → Nat) : gx_arr tys (xM a ι) (24) .boolean 51 := ⟨1, ι 1, by rw [hx.2]; rfl, fun r => ac0_M_M_allFactors a ι r⟩
theorem lt_M_M_isDenied : 25 < 26 := by decide
theorem ac0_M_M_isDenied (a : Nat → Nat) (ι : Nat → ClassId) (r : Nat → Int32) : xM a ι (25) r = .inl (ι 1, 51, .inl r) := rfl
theorem ac_M_M_isDenied {cl : List vw_C} {tys : List (ClassId × FieldType)} {ι : Nat → ClassId} (hx : gx_std vwCl (gty ι) cl tys) (a : Nat → Nat) : gx_arr tys (xM a ι) (25) .boolean 51 := ⟨1, ι 1, by rw [hx.2]; rfl, fun r => ac0_M_M_isDenied a ι r⟩
end

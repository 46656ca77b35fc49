-- ===== PART A: goes FIRST, ahead of the names: the tables' words, and 'selects' of the private methods out of them =====
/-- a private method of a class that the tables say can be made, by its rows of tables_1 -/
def lw_okq (q : MethodName × Nat) : Prop := (q.1.cls ≠ "java/lang/invoke/MethodHandle" ∧ q.1.cls ≠ "java/lang/invoke/VarHandle") ∧ Cond.instantiable q.1.cls q.2 ∈ tables_1 ∧ Cond.privateMethod q.1 ∈ tables_1 ∧ Cond.instanceMethod q.1 ∈ tables_1
theorem lw_p0 : lw_okq (⟨"ShopsAsOne", "isNoShop", "(I)Z"⟩, 15) := ⟨⟨by decide +kernel, by decide +kernel⟩, List.mem_of_getElem? (i := 12) (by decide +kernel), List.mem_of_getElem? (i := 298) (by decide +kernel), List.mem_of_getElem? (i := 299) (by decide +kernel)⟩
theorem lw_p1 : lw_okq (⟨"ShopsAsOne", "isNoSort", "(I)Z"⟩, 15) := ⟨⟨by decide +kernel, by decide +kernel⟩, List.mem_of_getElem? (i := 12) (by decide +kernel), List.mem_of_getElem? (i := 330) (by decide +kernel), List.mem_of_getElem? (i := 331) (by decide +kernel)⟩
theorem lw_p2 : lw_okq (⟨"ShopsAsOne", "isNoOwner", "(I)Z"⟩, 15) := ⟨⟨by decide +kernel, by decide +kernel⟩, List.mem_of_getElem? (i := 12) (by decide +kernel), List.mem_of_getElem? (i := 352) (by decide +kernel), List.mem_of_getElem? (i := 353) (by decide +kernel)⟩
theorem lw_p3 : lw_okq (⟨"ShopsAsOne$Bests", "listShops", "(LShopsAsOne$Standing;I)V"⟩, 13) := ⟨⟨by decide +kernel, by decide +kernel⟩, List.mem_of_getElem? (i := 118) (by decide +kernel), List.mem_of_getElem? (i := 376) (by decide +kernel), List.mem_of_getElem? (i := 377) (by decide +kernel)⟩
theorem lw_p4 : lw_okq (⟨"ShopsAsOne$Bests", "layOthers", "(LShopsAsOne$Standing;I)V"⟩, 13) := ⟨⟨by decide +kernel, by decide +kernel⟩, List.mem_of_getElem? (i := 118) (by decide +kernel), List.mem_of_getElem? (i := 383) (by decide +kernel), List.mem_of_getElem? (i := 384) (by decide +kernel)⟩
theorem lw_p5 : lw_okq (⟨"ShopsAsOne$Bests", "tryOnePrice", "()V"⟩, 13) := ⟨⟨by decide +kernel, by decide +kernel⟩, List.mem_of_getElem? (i := 118) (by decide +kernel), List.mem_of_getElem? (i := 389) (by decide +kernel), List.mem_of_getElem? (i := 390) (by decide +kernel)⟩
theorem lw_p6 : lw_okq (⟨"ShopsAsOne$Bests", "putPrice", "(II)V"⟩, 13) := ⟨⟨by decide +kernel, by decide +kernel⟩, List.mem_of_getElem? (i := 118) (by decide +kernel), List.mem_of_getElem? (i := 393) (by decide +kernel), List.mem_of_getElem? (i := 394) (by decide +kernel)⟩
theorem lw_p7 : lw_okq (⟨"ShopsAsOne$Bests", "highestFor", "(II)I"⟩, 13) := ⟨⟨by decide +kernel, by decide +kernel⟩, List.mem_of_getElem? (i := 118) (by decide +kernel), List.mem_of_getElem? (i := 397) (by decide +kernel), List.mem_of_getElem? (i := 398) (by decide +kernel)⟩
theorem lw_p8 : lw_okq (⟨"ShopsAsOne$Bests", "keepIfBetter", "(I)V"⟩, 13) := ⟨⟨by decide +kernel, by decide +kernel⟩, List.mem_of_getElem? (i := 118) (by decide +kernel), List.mem_of_getElem? (i := 401) (by decide +kernel), List.mem_of_getElem? (i := 402) (by decide +kernel)⟩
theorem lw_p9 : lw_okq (⟨"ShopsAsOne$Bests", "tryPrices", "(I)V"⟩, 13) := ⟨⟨by decide +kernel, by decide +kernel⟩, List.mem_of_getElem? (i := 118) (by decide +kernel), List.mem_of_getElem? (i := 405) (by decide +kernel), List.mem_of_getElem? (i := 406) (by decide +kernel)⟩
theorem lw_p10 : lw_okq (⟨"ShopsAsOne$Bests", "tryLastPrice", "(I)V"⟩, 13) := ⟨⟨by decide +kernel, by decide +kernel⟩, List.mem_of_getElem? (i := 118) (by decide +kernel), List.mem_of_getElem? (i := 409) (by decide +kernel), List.mem_of_getElem? (i := 410) (by decide +kernel)⟩
theorem lw_p11 : lw_okq (⟨"ShopsAsOne", "gainOf", "(I)I"⟩, 15) := ⟨⟨by decide +kernel, by decide +kernel⟩, List.mem_of_getElem? (i := 12) (by decide +kernel), List.mem_of_getElem? (i := 446) (by decide +kernel), List.mem_of_getElem? (i := 447) (by decide +kernel)⟩
theorem lw_p12 : lw_okq (⟨"ShopsAsOne$Street", "measure", "(II)V"⟩, 14) := ⟨⟨by decide +kernel, by decide +kernel⟩, List.mem_of_getElem? (i := 20) (by decide +kernel), List.mem_of_getElem? (i := 503) (by decide +kernel), List.mem_of_getElem? (i := 504) (by decide +kernel)⟩
def lw_privs_1 : List (MethodName × Nat) := [(⟨"ShopsAsOne", "isNoShop", "(I)Z"⟩, 15), (⟨"ShopsAsOne", "isNoSort", "(I)Z"⟩, 15), (⟨"ShopsAsOne", "isNoOwner", "(I)Z"⟩, 15), (⟨"ShopsAsOne$Bests", "listShops", "(LShopsAsOne$Standing;I)V"⟩, 13), (⟨"ShopsAsOne$Bests", "layOthers", "(LShopsAsOne$Standing;I)V"⟩, 13), (⟨"ShopsAsOne$Bests", "tryOnePrice", "()V"⟩, 13), (⟨"ShopsAsOne$Bests", "putPrice", "(II)V"⟩, 13), (⟨"ShopsAsOne$Bests", "highestFor", "(II)I"⟩, 13), (⟨"ShopsAsOne$Bests", "keepIfBetter", "(I)V"⟩, 13), (⟨"ShopsAsOne$Bests", "tryPrices", "(I)V"⟩, 13), (⟨"ShopsAsOne$Bests", "tryLastPrice", "(I)V"⟩, 13), (⟨"ShopsAsOne", "gainOf", "(I)I"⟩, 15), (⟨"ShopsAsOne$Street", "measure", "(II)V"⟩, 14)]
theorem lw_r1 : ∀ q ∈ lw_privs_1, lw_okq q := List.forall_mem_cons.mpr ⟨lw_p0, List.forall_mem_cons.mpr ⟨lw_p1, List.forall_mem_cons.mpr ⟨lw_p2, List.forall_mem_cons.mpr ⟨lw_p3, List.forall_mem_cons.mpr ⟨lw_p4, List.forall_mem_cons.mpr ⟨lw_p5, List.forall_mem_cons.mpr ⟨lw_p6, List.forall_mem_cons.mpr ⟨lw_p7, List.forall_mem_cons.mpr ⟨lw_p8, List.forall_mem_cons.mpr ⟨lw_p9, List.forall_mem_cons.mpr ⟨lw_p10, List.forall_mem_cons.mpr ⟨lw_p11, List.forall_mem_cons.mpr ⟨lw_p12, fun _ h => absurd h List.not_mem_nil⟩⟩⟩⟩⟩⟩⟩⟩⟩⟩⟩⟩⟩
def lw_privs : List (MethodName × Nat) := lw_privs_1
def lw_tbl : List Cond := k2_sels lw_privs ++ tables_1
theorem lw_privs_ok : ∀ q ∈ lw_privs, lw_okq q := lw_r1
def RX0 : String := "ShopsAsOne$Bests"
def TX0 : u_T := fun k => match k with
  | 0 => ("ShopsAsOne$Bests", "street", "LShopsAsOne$Street;", true)
  | 1 => ("ShopsAsOne$Bests", "own", "[I", true)
  | 2 => ("ShopsAsOne$Bests", "ownCost", "[I", true)
  | 3 => ("ShopsAsOne$Bests", "tried", "[I", true)
  | 4 => ("ShopsAsOne$Bests", "chosen", "[I", true)
  | 5 => ("ShopsAsOne$Bests", "ownCount", "I", false)
  | 6 => ("ShopsAsOne$Bests", "least", "[[I", true)
  | 7 => ("ShopsAsOne$Bests", "choice", "[[I", true)
  | 8 => ("ShopsAsOne$Bests", "earns", "[[I", true)
  | 9 => ("ShopsAsOne$Bests", "comers", "[I", true)
  | 10 => ("ShopsAsOne$Bests", "elsewhere", "[I", true)
  | 11 => ("ShopsAsOne$Bests", "profit", "I", false)
  | _ => ("ShopsAsOne$Bests", "isIn", "Z", false)
def tyX0 : Nat → FieldType := fun k => match k with
  | 0 => .object "ShopsAsOne$Street"
  | 1 => .array .int
  | 2 => .array .int
  | 3 => .array .int
  | 4 => .array .int
  | 5 => .int
  | 6 => .array (.array .int)
  | 7 => .array (.array .int)
  | 8 => .array (.array .int)
  | 9 => .array .int
  | 10 => .array .int
  | 11 => .int
  | _ => .boolean
theorem nmX0 : ∀ a, a < 13 → ∀ b, b < 13 → a ≠ b → (TX0 a).2.1 ≠ (TX0 b).2.1 := by decide +kernel
theorem tyX0_ok : ∀ k, k < 13 → parseFieldDescriptor (TX0 k).2.2.1 = some (tyX0 k) := by decide +kernel
abbrev cX0_init : ByteArray := prog_2_method_1_code
def yX0_init : MethodName := ⟨RX0, "<init>", "(LShopsAsOne$Street;)V"⟩
abbrev cX0_settle : ByteArray := prog_2_method_2_code
def yX0_settle : MethodName := ⟨RX0, "settle", "(LShopsAsOne$Standing;)I"⟩
abbrev cX0_take : ByteArray := prog_2_method_3_code
def yX0_take : MethodName := ⟨RX0, "take", "(LShopsAsOne$Standing;I)I"⟩
abbrev cX0_look : ByteArray := prog_2_method_4_code
def yX0_look : MethodName := ⟨RX0, "look", "(LShopsAsOne$Standing;I)V"⟩
abbrev cX0_priceOf : ByteArray := prog_2_method_5_code
def yX0_priceOf : MethodName := ⟨RX0, "priceOf", "(I)I"⟩
abbrev cX0_listShops : ByteArray := prog_2_method_6_code
def yX0_listShops : MethodName := ⟨RX0, "listShops", "(LShopsAsOne$Standing;I)V"⟩
abbrev cX0_layOthers : ByteArray := prog_2_method_7_code
def yX0_layOthers : MethodName := ⟨RX0, "layOthers", "(LShopsAsOne$Standing;I)V"⟩
abbrev cX0_tryOnePrice : ByteArray := prog_2_method_8_code
def yX0_tryOnePrice : MethodName := ⟨RX0, "tryOnePrice", "()V"⟩
abbrev cX0_tryPrices : ByteArray := prog_2_method_9_code
def yX0_tryPrices : MethodName := ⟨RX0, "tryPrices", "(I)V"⟩
abbrev cX0_putPrice : ByteArray := prog_2_method_10_code
def yX0_putPrice : MethodName := ⟨RX0, "putPrice", "(II)V"⟩
abbrev cX0_highestFor : ByteArray := prog_2_method_11_code
def yX0_highestFor : MethodName := ⟨RX0, "highestFor", "(II)I"⟩
abbrev cX0_tryLastPrice : ByteArray := prog_2_method_12_code
def yX0_tryLastPrice : MethodName := ⟨RX0, "tryLastPrice", "(I)V"⟩
abbrev cX0_keepIfBetter : ByteArray := prog_2_method_13_code
def yX0_keepIfBetter : MethodName := ⟨RX0, "keepIfBetter", "(I)V"⟩
def RX1 : String := "ShopsAsOne$Grammar"
def TX1 : u_T := fun k => match k with
  | 0 => ("ShopsAsOne$Grammar", "wants", "I", false)
  | 1 => ("ShopsAsOne$Grammar", "open", "I", false)
  | _ => ("ShopsAsOne$Grammar", "digits", "I", false)
def tyX1 : Nat → FieldType := fun k => match k with
  | 0 => .int
  | 1 => .int
  | _ => .int
theorem nmX1 : ∀ a, a < 3 → ∀ b, b < 3 → a ≠ b → (TX1 a).2.1 ≠ (TX1 b).2.1 := by decide +kernel
theorem tyX1_ok : ∀ k, k < 3 → parseFieldDescriptor (TX1 k).2.2.1 = some (tyX1 k) := by decide +kernel
abbrev cX1_init : ByteArray := prog_3_method_1_code
def yX1_init : MethodName := ⟨RX1, "<init>", "()V"⟩
def RX2 : String := "ShopsAsOne$Joining"
def TX2 : u_T := fun k => match k with
  | 0 => ("ShopsAsOne$Joining", "street", "LShopsAsOne$Street;", true)
  | 1 => ("ShopsAsOne$Joining", "bests", "LShopsAsOne$Bests;", true)
  | 2 => ("ShopsAsOne$Joining", "before", "LShopsAsOne$Standing;", true)
  | 3 => ("ShopsAsOne$Joining", "behind", "LShopsAsOne$Standing;", true)
  | _ => ("ShopsAsOne$Joining", "spareBefore", "[I", true)
def tyX2 : Nat → FieldType := fun k => match k with
  | 0 => .object "ShopsAsOne$Street"
  | 1 => .object "ShopsAsOne$Bests"
  | 2 => .object "ShopsAsOne$Standing"
  | 3 => .object "ShopsAsOne$Standing"
  | _ => .array .int
theorem nmX2 : ∀ a, a < 5 → ∀ b, b < 5 → a ≠ b → (TX2 a).2.1 ≠ (TX2 b).2.1 := by decide +kernel
theorem tyX2_ok : ∀ k, k < 5 → parseFieldDescriptor (TX2 k).2.2.1 = some (tyX2 k) := by decide +kernel
abbrev cX2_init : ByteArray := prog_4_method_1_code
def yX2_init : MethodName := ⟨RX2, "<init>", "(LShopsAsOne$Street;LShopsAsOne$Bests;)V"⟩
def RX3 : String := "ShopsAsOne$Judge"
def TX3 : u_T := fun k => match k with
  | 0 => ("ShopsAsOne$Judge", "street", "LShopsAsOne$Street;", true)
  | 1 => ("ShopsAsOne$Judge", "sold", "[I", true)
  | 2 => ("ShopsAsOne$Judge", "any", "[Z", true)
  | 3 => ("ShopsAsOne$Judge", "all", "[Z", true)
  | 4 => ("ShopsAsOne$Judge", "turned", "[Z", true)
  | 5 => ("ShopsAsOne$Judge", "depth", "I", false)
  | 6 => ("ShopsAsOne$Judge", "share", "I", false)
  | 7 => ("ShopsAsOne$Judge", "sellers", "I", false)
  | 8 => ("ShopsAsOne$Judge", "product", "I", false)
  | _ => ("ShopsAsOne$Judge", "distance", "I", false)
def tyX3 : Nat → FieldType := fun k => match k with
  | 0 => .object "ShopsAsOne$Street"
  | 1 => .array .int
  | 2 => .array .boolean
  | 3 => .array .boolean
  | 4 => .array .boolean
  | 5 => .int
  | 6 => .int
  | 7 => .int
  | 8 => .int
  | _ => .int
theorem nmX3 : ∀ a, a < 10 → ∀ b, b < 10 → a ≠ b → (TX3 a).2.1 ≠ (TX3 b).2.1 := by decide +kernel
theorem tyX3_ok : ∀ k, k < 10 → parseFieldDescriptor (TX3 k).2.2.1 = some (tyX3 k) := by decide +kernel
abbrev cX3_init : ByteArray := prog_5_method_1_code
def yX3_init : MethodName := ⟨RX3, "<init>", "(LShopsAsOne$Street;)V"⟩
def RX4 : String := "ShopsAsOne$Standing"
def TX4 : u_T := fun k => match k with
  | 0 => ("ShopsAsOne$Standing", "street", "LShopsAsOne$Street;", true)
  | 1 => ("ShopsAsOne$Standing", "price", "[I", true)
  | 2 => ("ShopsAsOne$Standing", "whose", "[I", true)
  | _ => ("ShopsAsOne$Standing", "in", "[Z", true)
def tyX4 : Nat → FieldType := fun k => match k with
  | 0 => .object "ShopsAsOne$Street"
  | 1 => .array .int
  | 2 => .array .int
  | _ => .array .boolean
theorem nmX4 : ∀ a, a < 4 → ∀ b, b < 4 → a ≠ b → (TX4 a).2.1 ≠ (TX4 b).2.1 := by decide +kernel
theorem tyX4_ok : ∀ k, k < 4 → parseFieldDescriptor (TX4 k).2.2.1 = some (tyX4 k) := by decide +kernel
abbrev cX4_init : ByteArray := prog_6_method_1_code
def yX4_init : MethodName := ⟨RX4, "<init>", "(LShopsAsOne$Street;)V"⟩
abbrev cX4_become : ByteArray := prog_6_method_2_code
def yX4_become : MethodName := ⟨RX4, "become", "(LShopsAsOne$Standing;)V"⟩
abbrev cX4_setOf : ByteArray := prog_6_method_4_code
def yX4_setOf : MethodName := ⟨RX4, "setOf", "(I)I"⟩
abbrev cX4_shopsOf : ByteArray := prog_6_method_5_code
def yX4_shopsOf : MethodName := ⟨RX4, "shopsOf", "(I)I"⟩
abbrev cX4_isOpen : ByteArray := prog_6_method_6_code
def yX4_isOpen : MethodName := ⟨RX4, "isOpen", "(I)Z"⟩
abbrev cX4_whatIs : ByteArray := prog_6_method_9_code
def yX4_whatIs : MethodName := ⟨RX4, "whatIs", "(II)I"⟩
abbrev cX4_choice : ByteArray := prog_6_method_10_code
def yX4_choice : MethodName := ⟨RX4, "choice", "(II)I"⟩
abbrev cX4_spareOf : ByteArray := prog_6_method_11_code
def yX4_spareOf : MethodName := ⟨RX4, "spareOf", "(I)I"⟩
abbrev cX4_soldBy : ByteArray := prog_6_method_12_code
def yX4_soldBy : MethodName := ⟨RX4, "soldBy", "(I)I"⟩
abbrev cX4_profitOf : ByteArray := prog_6_method_13_code
def yX4_profitOf : MethodName := ⟨RX4, "profitOf", "(I)I"⟩
def RX5 : String := "ShopsAsOne$Street"
def TX5 : u_T := fun k => match k with
  | 0 => ("ShopsAsOne$Street", "owners", "I", false)
  | 1 => ("ShopsAsOne$Street", "shops", "I", false)
  | 2 => ("ShopsAsOne$Street", "sorts", "I", false)
  | 3 => ("ShopsAsOne$Street", "kind", "[I", true)
  | 4 => ("ShopsAsOne$Street", "n", "[I", true)
  | 5 => ("ShopsAsOne$Street", "place", "[I", true)
  | 6 => ("ShopsAsOne$Street", "cost", "[I", true)
  | 7 => ("ShopsAsOne$Street", "home", "[I", true)
  | 8 => ("ShopsAsOne$Street", "many", "[I", true)
  | 9 => ("ShopsAsOne$Street", "way", "[I", true)
  | 10 => ("ShopsAsOne$Street", "worth", "[I", true)
  | 11 => ("ShopsAsOne$Street", "liked", "[I", true)
  | 12 => ("ShopsAsOne$Street", "liking", "[I", true)
  | _ => ("ShopsAsOne$Street", "beside", "[[I", true)
def tyX5 : Nat → FieldType := fun k => match k with
  | 0 => .int
  | 1 => .int
  | 2 => .int
  | 3 => .array .int
  | 4 => .array .int
  | 5 => .array .int
  | 6 => .array .int
  | 7 => .array .int
  | 8 => .array .int
  | 9 => .array .int
  | 10 => .array .int
  | 11 => .array .int
  | 12 => .array .int
  | _ => .array (.array .int)
theorem nmX5 : ∀ a, a < 14 → ∀ b, b < 14 → a ≠ b → (TX5 a).2.1 ≠ (TX5 b).2.1 := by decide +kernel
theorem tyX5_ok : ∀ k, k < 14 → parseFieldDescriptor (TX5 k).2.2.1 = some (tyX5 k) := by decide +kernel
abbrev cX5_init : ByteArray := prog_7_method_1_code
def yX5_init : MethodName := ⟨RX5, "<init>", "()V"⟩
abbrev cX5_addOwner : ByteArray := prog_7_method_2_code
def yX5_addOwner : MethodName := ⟨RX5, "addOwner", "(II)I"⟩
abbrev cX5_addShop : ByteArray := prog_7_method_3_code
def yX5_addShop : MethodName := ⟨RX5, "addShop", "(II)I"⟩
abbrev cX5_addSort : ByteArray := prog_7_method_4_code
def yX5_addSort : MethodName := ⟨RX5, "addSort", "(IIIIII)I"⟩
abbrev cX5_measure : ByteArray := prog_7_method_5_code
def yX5_measure : MethodName := ⟨RX5, "measure", "(II)V"⟩
abbrev cX5_costTo : ByteArray := prog_7_method_6_code
def yX5_costTo : MethodName := ⟨RX5, "costTo", "(II)I"⟩
def RX6 : String := "ShopsAsOne$Text"
def TX6 : u_T := fun k => match k with
  | 0 => ("ShopsAsOne$Text", "letter", "[C", true)
  | _ => ("ShopsAsOne$Text", "length", "I", false)
def tyX6 : Nat → FieldType := fun k => match k with
  | 0 => .array .char
  | _ => .int
theorem nmX6 : ∀ a, a < 2 → ∀ b, b < 2 → a ≠ b → (TX6 a).2.1 ≠ (TX6 b).2.1 := by decide +kernel
theorem tyX6_ok : ∀ k, k < 2 → parseFieldDescriptor (TX6 k).2.2.1 = some (tyX6 k) := by decide +kernel
abbrev cX6_init : ByteArray := prog_8_method_1_code
def yX6_init : MethodName := ⟨RX6, "<init>", "()V"⟩
def RX7 : String := "ShopsAsOne"
def TX7 : u_T := fun k => match k with
  | 0 => ("ShopsAsOne", "street", "LShopsAsOne$Street;", true)
  | 1 => ("ShopsAsOne", "now", "LShopsAsOne$Standing;", true)
  | 2 => ("ShopsAsOne", "trial", "LShopsAsOne$Standing;", true)
  | 3 => ("ShopsAsOne", "kept", "LShopsAsOne$Standing;", true)
  | 4 => ("ShopsAsOne", "bests", "LShopsAsOne$Bests;", true)
  | 5 => ("ShopsAsOne", "joining", "LShopsAsOne$Joining;", true)
  | 6 => ("ShopsAsOne", "page", "LShopsAsOne$Text;", true)
  | 7 => ("ShopsAsOne", "tests", "[LShopsAsOne$Text;", true)
  | 8 => ("ShopsAsOne", "grammar", "LShopsAsOne$Grammar;", true)
  | 9 => ("ShopsAsOne", "judge", "LShopsAsOne$Judge;", true)
  | 10 => ("ShopsAsOne", "testCount", "I", false)
  | 11 => ("ShopsAsOne", "wrongCount", "I", false)
  | 12 => ("ShopsAsOne", "isKept", "Z", false)
  | 13 => ("ShopsAsOne", "keptOwners", "I", false)
  | _ => ("ShopsAsOne", "keptShops", "I", false)
def tyX7 : Nat → FieldType := fun k => match k with
  | 0 => .object "ShopsAsOne$Street"
  | 1 => .object "ShopsAsOne$Standing"
  | 2 => .object "ShopsAsOne$Standing"
  | 3 => .object "ShopsAsOne$Standing"
  | 4 => .object "ShopsAsOne$Bests"
  | 5 => .object "ShopsAsOne$Joining"
  | 6 => .object "ShopsAsOne$Text"
  | 7 => .array (.object "ShopsAsOne$Text")
  | 8 => .object "ShopsAsOne$Grammar"
  | 9 => .object "ShopsAsOne$Judge"
  | 10 => .int
  | 11 => .int
  | 12 => .boolean
  | 13 => .int
  | _ => .int
theorem nmX7 : ∀ a, a < 15 → ∀ b, b < 15 → a ≠ b → (TX7 a).2.1 ≠ (TX7 b).2.1 := by decide +kernel
theorem tyX7_ok : ∀ k, k < 15 → parseFieldDescriptor (TX7 k).2.2.1 = some (tyX7 k) := by decide +kernel
abbrev cX7_init : ByteArray := prog_1_method_1_code
def yX7_init : MethodName := ⟨RX7, "<init>", "()V"⟩
abbrev cX7_owner : ByteArray := prog_1_method_2_code
def yX7_owner : MethodName := ⟨RX7, "owner", "(II)I"⟩
abbrev cX7_shop : ByteArray := prog_1_method_4_code
def yX7_shop : MethodName := ⟨RX7, "shop", "(IIII)I"⟩
abbrev cX7_about : ByteArray := prog_1_method_5_code
def yX7_about : MethodName := ⟨RX7, "about", "(II)I"⟩
abbrev cX7_price : ByteArray := prog_1_method_6_code
def yX7_price : MethodName := ⟨RX7, "price", "(II)I"⟩
abbrev cX7_sort : ByteArray := prog_1_method_7_code
def yX7_sort : MethodName := ⟨RX7, "sort", "(IIIIII)I"⟩
abbrev cX7_is : ByteArray := prog_1_method_8_code
def yX7_is : MethodName := ⟨RX7, "is", "(II)I"⟩
abbrev cX7_goes : ByteArray := prog_1_method_9_code
def yX7_goes : MethodName := ⟨RX7, "goes", "(I)I"⟩
abbrev cX7_spare : ByteArray := prog_1_method_10_code
def yX7_spare : MethodName := ⟨RX7, "spare", "(I)I"⟩
abbrev cX7_profit : ByteArray := prog_1_method_11_code
def yX7_profit : MethodName := ⟨RX7, "profit", "(I)I"⟩
abbrev cX7_best : ByteArray := prog_1_method_12_code
def yX7_best : MethodName := ⟨RX7, "best", "(II)I"⟩
abbrev cX7_turn : ByteArray := prog_1_method_13_code
def yX7_turn : MethodName := ⟨RX7, "turn", "(I)I"⟩
abbrev cX7_rest : ByteArray := prog_1_method_14_code
def yX7_rest : MethodName := ⟨RX7, "rest", "()I"⟩
abbrev cX7_otherwise : ByteArray := prog_1_method_15_code
def yX7_otherwise : MethodName := ⟨RX7, "otherwise", "()I"⟩
abbrev cX7_gain : ByteArray := prog_1_method_16_code
def yX7_gain : MethodName := ⟨RX7, "gain", "(I)I"⟩
abbrev cX7_gainOf : ByteArray := prog_1_method_17_code
def yX7_gainOf : MethodName := ⟨RX7, "gainOf", "(I)I"⟩
abbrev cX7_instead : ByteArray := prog_1_method_22_code
def yX7_instead : MethodName := ⟨RX7, "instead", "(II)I"⟩
abbrev cX7_from : ByteArray := prog_1_method_23_code
def yX7_from : MethodName := ⟨RX7, "from", "(II)I"⟩
abbrev cX7_count : ByteArray := prog_1_method_40_code
def yX7_count : MethodName := ⟨RX7, "count", "(I)I"⟩
abbrev cX7_isNot : ByteArray := prog_1_method_46_code
def yX7_isNot : MethodName := ⟨RX7, "isNot", "(III)Z"⟩
abbrev cX7_isNoOwner : ByteArray := prog_1_method_47_code
def yX7_isNoOwner : MethodName := ⟨RX7, "isNoOwner", "(I)Z"⟩
abbrev cX7_isNoShop : ByteArray := prog_1_method_48_code
def yX7_isNoShop : MethodName := ⟨RX7, "isNoShop", "(I)Z"⟩
abbrev cX7_isNoSort : ByteArray := prog_1_method_49_code
def yX7_isNoSort : MethodName := ⟨RX7, "isNoSort", "(I)Z"⟩
def RX8 : String := "ShopsAsOneModel"
def TX8 : u_T := fun k => match k with
  | _ => ("", "", "", false)
def tyX8 : Nat → FieldType := fun k => match k with
  | _ => .int
theorem nmX8 : ∀ a, a < 0 → ∀ b, b < 0 → a ≠ b → (TX8 a).2.1 ≠ (TX8 b).2.1 := by decide +kernel
theorem tyX8_ok : ∀ k, k < 0 → parseFieldDescriptor (TX8 k).2.2.1 = some (tyX8 k) := by decide +kernel
def RJ6 : String := "java/lang/Integer"
def TJ6 : u_T := fun k => match k with
  | _ => ("", "", "", false)
def tyJ6 : Nat → FieldType := fun k => match k with
  | _ => .int
abbrev cJ6_bitCount_0f7a4 : ByteArray := prog_11_method_49_code
def yJ6_bitCount_0f7a4 : MethodName := ⟨RJ6, "bitCount", "(I)I"⟩
def RJ9 : String := "java/lang/Math"
def TJ9 : u_T := fun k => match k with
  | _ => ("", "", "", false)
def tyJ9 : Nat → FieldType := fun k => match k with
  | _ => .int
abbrev cJ9_abs_0f7a4 : ByteArray := prog_12_method_59_code
def yJ9_abs_0f7a4 : MethodName := ⟨RJ9, "abs", "(I)I"⟩
abbrev cJ9_max_7cf53 : ByteArray := prog_12_method_65_code
def yJ9_max_7cf53 : MethodName := ⟨RJ9, "max", "(II)I"⟩
abbrev cJ9_min_7cf53 : ByteArray := prog_12_method_69_code
def yJ9_min_7cf53 : MethodName := ⟨RJ9, "min", "(II)I"⟩
def RL : String := "ShopsAsOneLaw"
abbrev cL_cell : ByteArray := method_2_code
def yL_cell : MethodName := ⟨RL, "cell", "([II)I"⟩
abbrev cL_tell : ByteArray := method_4_code
def yL_tell : MethodName := ⟨RL, "tell", "(LShopsAsOne;[I[I[I)Z"⟩
abbrev cL_open : ByteArray := method_5_code
def yL_open : MethodName := ⟨RL, "open", "([II)Z"⟩
abbrev cL_is : ByteArray := method_6_code
def yL_is : MethodName := ⟨RL, "is", "([I[III)I"⟩
abbrev cL_goes : ByteArray := method_7_code
def yL_goes : MethodName := ⟨RL, "goes", "([I[III)I"⟩
abbrev cL_spare : ByteArray := method_8_code
def yL_spare : MethodName := ⟨RL, "spare", "([I[II)I"⟩
abbrev cL_sold : ByteArray := method_9_code
def yL_sold : MethodName := ⟨RL, "sold", "([I[II)I"⟩
abbrev cL_profit : ByteArray := method_10_code
def yL_profit : MethodName := ⟨RL, "profit", "([I[II)I"⟩
abbrev cL_turn : ByteArray := method_11_code
def yL_turn : MethodName := ⟨RL, "turn", "([I[II)I"⟩
abbrev cL_rest : ByteArray := method_12_code
def yL_rest : MethodName := ⟨RL, "rest", "([I[I)I"⟩
abbrev cL_copy : ByteArray := method_13_code
def yL_copy : MethodName := ⟨RL, "copy", "([I[I)V"⟩
abbrev cL_law : ByteArray := code
def yL_law : MethodName := ⟨RL, "law", "([I)Z"⟩
abbrev vwCl : List vw_C := [(RX0, TX0, 13), (RX1, TX1, 3), (RX2, TX2, 5), (RX3, TX3, 10), (RX4, TX4, 4), (RX5, TX5, 14), (RX6, TX6, 2), (RX7, TX7, 15)]
theorem gx_lib0 : True := by
  have h := @Jvm.Free.Multi.fill_facts
  trivial

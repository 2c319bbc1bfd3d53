def RX0 : String := "FamilyOaks$Elders"
def TX0 : u_T := fun k => match k with
  | 0 => ("FamilyOaks$Elders", "noted", "[I", true)
  | _ => ("FamilyOaks$Elders", "depths", "[I", true)
def tyX0 : Nat → FieldType := fun k => match k with
  | 0 => .array .int
  | _ => .array .int
abbrev wsX00 : List Cond := u_ws RX0 TX0 2
theorem nmX0 : ∀ a, a < 2 → ∀ b, b < 2 → a ≠ b → (TX0 a).2.1 ≠ (TX0 b).2.1 := by decide +kernel
theorem tyX0_ok : ∀ k, k < 2 → parseFieldDescriptor (TX0 k).2.2.1 = some (tyX0 k) := by decide +kernel
abbrev cX0_init : ByteArray := prog_2_method_1_code
def yX0_init : MethodName := ⟨RX0, "<init>", "()V"⟩
abbrev cX0_renew : ByteArray := prog_2_method_2_code
def yX0_renew : MethodName := ⟨RX0, "renew", "(LFamilyOaks$Families;)V"⟩
abbrev cX0_notedOf : ByteArray := prog_2_method_3_code
def yX0_notedOf : MethodName := ⟨RX0, "notedOf", "(II)I"⟩
abbrev cX0_depthOf : ByteArray := prog_2_method_4_code
def yX0_depthOf : MethodName := ⟨RX0, "depthOf", "(I)I"⟩
abbrev cX0_leapUp : ByteArray := prog_2_method_5_code
def yX0_leapUp : MethodName := ⟨RX0, "leapUp", "(II)I"⟩
abbrev cX0_leapsFor : ByteArray := prog_2_method_6_code
def yX0_leapsFor : MethodName := ⟨RX0, "leapsFor", "(I)I"⟩
abbrev cX0_commonByLeaps : ByteArray := prog_2_method_7_code
def yX0_commonByLeaps : MethodName := ⟨RX0, "commonByLeaps", "(II)I"⟩
def RX1 : String := "FamilyOaks$Families"
def TX1 : u_T := fun k => match k with
  | 0 => ("FamilyOaks$Families", "parents", "[I", true)
  | 1 => ("FamilyOaks$Families", "spouses", "[I", true)
  | 2 => ("FamilyOaks$Families", "coins", "[I", true)
  | 3 => ("FamilyOaks$Families", "living", "[Z", true)
  | 4 => ("FamilyOaks$Families", "quarrelers", "[I", true)
  | 5 => ("FamilyOaks$Families", "rivals", "[I", true)
  | 6 => ("FamilyOaks$Families", "persons", "I", false)
  | 7 => ("FamilyOaks$Families", "quarrels", "I", false)
  | 8 => ("FamilyOaks$Families", "ended", "I", false)
  | 9 => ("FamilyOaks$Families", "given", "I", false)
  | _ => ("FamilyOaks$Families", "lost", "I", false)
def tyX1 : Nat → FieldType := fun k => match k with
  | 0 => .array .int
  | 1 => .array .int
  | 2 => .array .int
  | 3 => .array .boolean
  | 4 => .array .int
  | 5 => .array .int
  | 6 => .int
  | 7 => .int
  | 8 => .int
  | 9 => .int
  | _ => .int
abbrev wsX10 : List Cond := u_ws RX1 TX1 11
theorem nmX1 : ∀ a, a < 11 → ∀ b, b < 11 → a ≠ b → (TX1 a).2.1 ≠ (TX1 b).2.1 := by decide +kernel
theorem tyX1_ok : ∀ k, k < 11 → parseFieldDescriptor (TX1 k).2.2.1 = some (tyX1 k) := by decide +kernel
abbrev cX1_init : ByteArray := prog_3_method_1_code
def yX1_init : MethodName := ⟨RX1, "<init>", "()V"⟩
abbrev cX1_copyFrom : ByteArray := prog_3_method_2_code
def yX1_copyFrom : MethodName := ⟨RX1, "copyFrom", "(LFamilyOaks$Families;)V"⟩
abbrev cX1_has : ByteArray := prog_3_method_3_code
def yX1_has : MethodName := ⟨RX1, "has", "(I)Z"⟩
abbrev cX1_parentOf : ByteArray := prog_3_method_4_code
def yX1_parentOf : MethodName := ⟨RX1, "parentOf", "(I)I"⟩
abbrev cX1_spouseOf : ByteArray := prog_3_method_5_code
def yX1_spouseOf : MethodName := ⟨RX1, "spouseOf", "(I)I"⟩
abbrev cX1_coinsOf : ByteArray := prog_3_method_6_code
def yX1_coinsOf : MethodName := ⟨RX1, "coinsOf", "(I)I"⟩
abbrev cX1_lives : ByteArray := prog_3_method_7_code
def yX1_lives : MethodName := ⟨RX1, "lives", "(I)Z"⟩
abbrev cX1_add : ByteArray := prog_3_method_8_code
def yX1_add : MethodName := ⟨RX1, "add", "(I)V"⟩
abbrev cX1_setParent : ByteArray := prog_3_method_9_code
def yX1_setParent : MethodName := ⟨RX1, "setParent", "(II)V"⟩
abbrev cX1_setSpouse : ByteArray := prog_3_method_10_code
def yX1_setSpouse : MethodName := ⟨RX1, "setSpouse", "(II)V"⟩
abbrev cX1_endMarriage : ByteArray := prog_3_method_11_code
def yX1_endMarriage : MethodName := ⟨RX1, "endMarriage", "(I)V"⟩
abbrev cX1_setDead : ByteArray := prog_3_method_12_code
def yX1_setDead : MethodName := ⟨RX1, "setDead", "(I)V"⟩
abbrev cX1_addCoins : ByteArray := prog_3_method_13_code
def yX1_addCoins : MethodName := ⟨RX1, "addCoins", "(II)V"⟩
abbrev cX1_passCoins : ByteArray := prog_3_method_14_code
def yX1_passCoins : MethodName := ⟨RX1, "passCoins", "(II)V"⟩
abbrev cX1_depthOf : ByteArray := prog_3_method_15_code
def yX1_depthOf : MethodName := ⟨RX1, "depthOf", "(I)I"⟩
abbrev cX1_rootOf : ByteArray := prog_3_method_16_code
def yX1_rootOf : MethodName := ⟨RX1, "rootOf", "(I)I"⟩
abbrev cX1_stepUp : ByteArray := prog_3_method_17_code
def yX1_stepUp : MethodName := ⟨RX1, "stepUp", "(II)I"⟩
abbrev cX1_commonByNotes : ByteArray := prog_3_method_18_code
def yX1_commonByNotes : MethodName := ⟨RX1, "commonByNotes", "(II)I"⟩
abbrev cX1_childAfter : ByteArray := prog_3_method_19_code
def yX1_childAfter : MethodName := ⟨RX1, "childAfter", "(II)I"⟩
abbrev cX1_nextBelow : ByteArray := prog_3_method_20_code
def yX1_nextBelow : MethodName := ⟨RX1, "nextBelow", "(II)I"⟩
abbrev cX1_childrenOf : ByteArray := prog_3_method_21_code
def yX1_childrenOf : MethodName := ⟨RX1, "childrenOf", "(I)I"⟩
abbrev cX1_descendantsOf : ByteArray := prog_3_method_22_code
def yX1_descendantsOf : MethodName := ⟨RX1, "descendantsOf", "(I)I"⟩
abbrev cX1_heirOf : ByteArray := prog_3_method_23_code
def yX1_heirOf : MethodName := ⟨RX1, "heirOf", "(I)I"⟩
abbrev cX1_nearestLivingElder : ByteArray := prog_3_method_24_code
def yX1_nearestLivingElder : MethodName := ⟨RX1, "nearestLivingElder", "(I)I"⟩
abbrev cX1_richerThan : ByteArray := prog_3_method_25_code
def yX1_richerThan : MethodName := ⟨RX1, "richerThan", "(I)I"⟩
abbrev cX1_hasQuarrel : ByteArray := prog_3_method_26_code
def yX1_hasQuarrel : MethodName := ⟨RX1, "hasQuarrel", "(I)Z"⟩
abbrev cX1_quarrelerAt : ByteArray := prog_3_method_27_code
def yX1_quarrelerAt : MethodName := ⟨RX1, "quarrelerAt", "(I)I"⟩
abbrev cX1_rivalAt : ByteArray := prog_3_method_28_code
def yX1_rivalAt : MethodName := ⟨RX1, "rivalAt", "(I)I"⟩
abbrev cX1_quarrelsOf : ByteArray := prog_3_method_29_code
def yX1_quarrelsOf : MethodName := ⟨RX1, "quarrelsOf", "(I)I"⟩
abbrev cX1_doQuarrel : ByteArray := prog_3_method_30_code
def yX1_doQuarrel : MethodName := ⟨RX1, "doQuarrel", "(II)Z"⟩
abbrev cX1_addQuarrel : ByteArray := prog_3_method_31_code
def yX1_addQuarrel : MethodName := ⟨RX1, "addQuarrel", "(II)V"⟩
abbrev cX1_removeQuarrel : ByteArray := prog_3_method_32_code
def yX1_removeQuarrel : MethodName := ⟨RX1, "removeQuarrel", "(I)V"⟩
abbrev cX1_livingPersons : ByteArray := prog_3_method_33_code
def yX1_livingPersons : MethodName := ⟨RX1, "livingPersons", "()I"⟩
abbrev cX1_oaks : ByteArray := prog_3_method_34_code
def yX1_oaks : MethodName := ⟨RX1, "oaks", "()I"⟩
abbrev cX1_marriages : ByteArray := prog_3_method_35_code
def yX1_marriages : MethodName := ⟨RX1, "marriages", "()I"⟩
abbrev cX1_greatestDepth : ByteArray := prog_3_method_36_code
def yX1_greatestDepth : MethodName := ⟨RX1, "greatestDepth", "()I"⟩
abbrev cX1_sumOfDepths : ByteArray := prog_3_method_37_code
def yX1_sumOfDepths : MethodName := ⟨RX1, "sumOfDepths", "()I"⟩
abbrev cX1_allCoins : ByteArray := prog_3_method_38_code
def yX1_allCoins : MethodName := ⟨RX1, "allCoins", "()I"⟩
def RX2 : String := "FamilyOaks$Houses"
def TX2 : u_T := fun k => match k with
  | 0 => ("FamilyOaks$Houses", "heads", "[I", true)
  | _ => ("FamilyOaks$Houses", "least", "[I", true)
def tyX2 : Nat → FieldType := fun k => match k with
  | 0 => .array .int
  | _ => .array .int
abbrev wsX20 : List Cond := u_ws RX2 TX2 2
theorem nmX2 : ∀ a, a < 2 → ∀ b, b < 2 → a ≠ b → (TX2 a).2.1 ≠ (TX2 b).2.1 := by decide +kernel
theorem tyX2_ok : ∀ k, k < 2 → parseFieldDescriptor (TX2 k).2.2.1 = some (tyX2 k) := by decide +kernel
abbrev cX2_init : ByteArray := prog_4_method_1_code
def yX2_init : MethodName := ⟨RX2, "<init>", "()V"⟩
abbrev cX2_renew : ByteArray := prog_4_method_2_code
def yX2_renew : MethodName := ⟨RX2, "renew", "(LFamilyOaks$Families;)V"⟩
abbrev cX2_join : ByteArray := prog_4_method_3_code
def yX2_join : MethodName := ⟨RX2, "join", "(II)V"⟩
abbrev cX2_houseOf : ByteArray := prog_4_method_4_code
def yX2_houseOf : MethodName := ⟨RX2, "houseOf", "(I)I"⟩
abbrev cX2_isOneHouse : ByteArray := prog_4_method_5_code
def yX2_isOneHouse : MethodName := ⟨RX2, "isOneHouse", "(II)Z"⟩
abbrev cX2_count : ByteArray := prog_4_method_6_code
def yX2_count : MethodName := ⟨RX2, "count", "(LFamilyOaks$Families;)I"⟩
abbrev cX2_countAgain : ByteArray := prog_4_method_7_code
def yX2_countAgain : MethodName := ⟨RX2, "countAgain", "(LFamilyOaks$Families;)I"⟩
abbrev cX2_lowerAll : ByteArray := prog_4_method_8_code
def yX2_lowerAll : MethodName := ⟨RX2, "lowerAll", "(LFamilyOaks$Families;)Z"⟩
abbrev cX2_lower : ByteArray := prog_4_method_9_code
def yX2_lower : MethodName := ⟨RX2, "lower", "(II)Z"⟩
def RX3 : String := "FamilyOaks$Input"
def TX3 : u_T := fun k => match k with
  | 0 => ("FamilyOaks$Input", "text", "[C", true)
  | 1 => ("FamilyOaks$Input", "kinds", "[I", true)
  | 2 => ("FamilyOaks$Input", "firsts", "[I", true)
  | 3 => ("FamilyOaks$Input", "seconds", "[I", true)
  | 4 => ("FamilyOaks$Input", "at", "I", false)
  | 5 => ("FamilyOaks$Input", "length", "I", false)
  | _ => ("FamilyOaks$Input", "orders", "I", false)
def tyX3 : Nat → FieldType := fun k => match k with
  | 0 => .array .char
  | 1 => .array .int
  | 2 => .array .int
  | 3 => .array .int
  | 4 => .int
  | 5 => .int
  | _ => .int
abbrev wsX30 : List Cond := u_ws RX3 TX3 7
theorem nmX3 : ∀ a, a < 7 → ∀ b, b < 7 → a ≠ b → (TX3 a).2.1 ≠ (TX3 b).2.1 := by decide +kernel
theorem tyX3_ok : ∀ k, k < 7 → parseFieldDescriptor (TX3 k).2.2.1 = some (tyX3 k) := by decide +kernel
abbrev cX3_init : ByteArray := prog_5_method_1_code
def yX3_init : MethodName := ⟨RX3, "<init>", "()V"⟩
abbrev cX3_add : ByteArray := prog_5_method_2_code
def yX3_add : MethodName := ⟨RX3, "add", "(C)V"⟩
abbrev cX3_kindAt : ByteArray := prog_5_method_3_code
def yX3_kindAt : MethodName := ⟨RX3, "kindAt", "(I)I"⟩
abbrev cX3_firstAt : ByteArray := prog_5_method_4_code
def yX3_firstAt : MethodName := ⟨RX3, "firstAt", "(I)I"⟩
abbrev cX3_secondAt : ByteArray := prog_5_method_5_code
def yX3_secondAt : MethodName := ⟨RX3, "secondAt", "(I)I"⟩
abbrev cX3_takeOrders : ByteArray := prog_5_method_6_code
def yX3_takeOrders : MethodName := ⟨RX3, "takeOrders", "()I"⟩
abbrev cX3_readOrder : ByteArray := prog_5_method_7_code
def yX3_readOrder : MethodName := ⟨RX3, "readOrder", "()Z"⟩
abbrev cX3_keep : ByteArray := prog_5_method_8_code
def yX3_keep : MethodName := ⟨RX3, "keep", "(III)Z"⟩
abbrev cX3_here : ByteArray := prog_5_method_9_code
def yX3_here : MethodName := ⟨RX3, "here", "()C"⟩
abbrev cX3_kindHere : ByteArray := prog_5_method_10_code
def yX3_kindHere : MethodName := ⟨RX3, "kindHere", "()I"⟩
abbrev cX3_signOf : ByteArray := prog_5_method_11_code
def yX3_signOf : MethodName := ⟨RX3, "signOf", "(I)C"⟩
abbrev cX3_readSign : ByteArray := prog_5_method_12_code
def yX3_readSign : MethodName := ⟨RX3, "readSign", "(C)Z"⟩
abbrev cX3_readNumber : ByteArray := prog_5_method_13_code
def yX3_readNumber : MethodName := ⟨RX3, "readNumber", "(I)I"⟩
def RX4 : String := "FamilyOaks"
def TX4 : u_T := fun k => match k with
  | 0 => ("FamilyOaks", "now", "LFamilyOaks$Families;", true)
  | 1 => ("FamilyOaks", "before", "LFamilyOaks$Families;", true)
  | 2 => ("FamilyOaks", "saved", "LFamilyOaks$Families;", true)
  | 3 => ("FamilyOaks", "isSaved", "Z", false)
  | 4 => ("FamilyOaks", "past", "[LFamilyOaks$Families;", true)
  | 5 => ("FamilyOaks", "pasts", "I", false)
  | 6 => ("FamilyOaks", "elders", "LFamilyOaks$Elders;", true)
  | 7 => ("FamilyOaks", "homes", "LFamilyOaks$Houses;", true)
  | 8 => ("FamilyOaks", "input", "LFamilyOaks$Input;", true)
  | 9 => ("FamilyOaks", "written", "Ljava/lang/StringBuilder;", true)
  | 10 => ("FamilyOaks", "errorAt", "I", false)
  | 11 => ("FamilyOaks", "reason", "I", false)
  | _ => ("FamilyOaks", "detail", "I", false)
def tyX4 : Nat → FieldType := fun k => match k with
  | 0 => .object "FamilyOaks$Families"
  | 1 => .object "FamilyOaks$Families"
  | 2 => .object "FamilyOaks$Families"
  | 3 => .boolean
  | 4 => .array (.object "FamilyOaks$Families")
  | 5 => .int
  | 6 => .object "FamilyOaks$Elders"
  | 7 => .object "FamilyOaks$Houses"
  | 8 => .object "FamilyOaks$Input"
  | 9 => .object "java/lang/StringBuilder"
  | 10 => .int
  | 11 => .int
  | _ => .int
abbrev wsX40 : List Cond := u_ws RX4 TX4 13
theorem nmX4 : ∀ a, a < 13 → ∀ b, b < 13 → a ≠ b → (TX4 a).2.1 ≠ (TX4 b).2.1 := by decide +kernel
theorem tyX4_ok : ∀ k, k < 13 → parseFieldDescriptor (TX4 k).2.2.1 = some (tyX4 k) := by decide +kernel
abbrev cX4_init : ByteArray := prog_1_method_1_code
def yX4_init : MethodName := ⟨RX4, "<init>", "()V"⟩
abbrev cX4_found : ByteArray := prog_1_method_2_code
def yX4_found : MethodName := ⟨RX4, "found", "()I"⟩
abbrev cX4_born : ByteArray := prog_1_method_3_code
def yX4_born : MethodName := ⟨RX4, "born", "(I)I"⟩
abbrev cX4_graft : ByteArray := prog_1_method_4_code
def yX4_graft : MethodName := ⟨RX4, "graft", "(II)I"⟩
abbrev cX4_cut : ByteArray := prog_1_method_5_code
def yX4_cut : MethodName := ⟨RX4, "cut", "(I)I"⟩
abbrev cX4_personOf : ByteArray := prog_1_method_6_code
def yX4_personOf : MethodName := ⟨RX4, "personOf", "(II)I"⟩
abbrev cX4_elder : ByteArray := prog_1_method_7_code
def yX4_elder : MethodName := ⟨RX4, "elder", "(IIZ)I"⟩
abbrev cX4_common : ByteArray := prog_1_method_8_code
def yX4_common : MethodName := ⟨RX4, "common", "(IIZ)I"⟩
abbrev cX4_degree : ByteArray := prog_1_method_9_code
def yX4_degree : MethodName := ⟨RX4, "degree", "(II)I"⟩
abbrev cX4_leaps : ByteArray := prog_1_method_10_code
def yX4_leaps : MethodName := ⟨RX4, "leaps", "(II)I"⟩
abbrev cX4_farthest : ByteArray := prog_1_method_11_code
def yX4_farthest : MethodName := ⟨RX4, "farthest", "(I)I"⟩
abbrev cX4_descendant : ByteArray := prog_1_method_12_code
def yX4_descendant : MethodName := ⟨RX4, "descendant", "(II)I"⟩
abbrev cX4_marry : ByteArray := prog_1_method_13_code
def yX4_marry : MethodName := ⟨RX4, "marry", "(II)I"⟩
abbrev cX4_part : ByteArray := prog_1_method_14_code
def yX4_part : MethodName := ⟨RX4, "part", "(I)I"⟩
abbrev cX4_quarrel : ByteArray := prog_1_method_15_code
def yX4_quarrel : MethodName := ⟨RX4, "quarrel", "(II)I"⟩
abbrev cX4_quarrelAt : ByteArray := prog_1_method_16_code
def yX4_quarrelAt : MethodName := ⟨RX4, "quarrelAt", "(IZ)I"⟩
abbrev cX4_houses : ByteArray := prog_1_method_18_code
def yX4_houses : MethodName := ⟨RX4, "houses", "()I"⟩
abbrev cX4_housesAgain : ByteArray := prog_1_method_19_code
def yX4_housesAgain : MethodName := ⟨RX4, "housesAgain", "()I"⟩
abbrev cX4_give : ByteArray := prog_1_method_20_code
def yX4_give : MethodName := ⟨RX4, "give", "(II)I"⟩
abbrev cX4_die : ByteArray := prog_1_method_21_code
def yX4_die : MethodName := ⟨RX4, "die", "(I)I"⟩
abbrev cX4_heir : ByteArray := prog_1_method_22_code
def yX4_heir : MethodName := ⟨RX4, "heir", "(I)I"⟩
abbrev cX4_ranked : ByteArray := prog_1_method_23_code
def yX4_ranked : MethodName := ⟨RX4, "ranked", "(I)I"⟩
abbrev cX4_line : ByteArray := prog_1_method_24_code
def yX4_line : MethodName := ⟨RX4, "line", "(I)I"⟩
abbrev cX4_character : ByteArray := prog_1_method_25_code
def yX4_character : MethodName := ⟨RX4, "character", "(I)C"⟩
abbrev cX4_append : ByteArray := prog_1_method_26_code
def yX4_append : MethodName := ⟨RX4, "append", "(C)I"⟩
abbrev cX4_run : ByteArray := prog_1_method_27_code
def yX4_run : MethodName := ⟨RX4, "run", "()I"⟩
abbrev cX4_account : ByteArray := prog_1_method_30_code
def yX4_account : MethodName := ⟨RX4, "account", "(I)I"⟩
abbrev cX4_isWell : ByteArray := prog_1_method_31_code
def yX4_isWell : MethodName := ⟨RX4, "isWell", "()Z"⟩
abbrev cX4_meanDepth : ByteArray := prog_1_method_32_code
def yX4_meanDepth : MethodName := ⟨RX4, "meanDepth", "()D"⟩
abbrev cX4_livingShare : ByteArray := prog_1_method_33_code
def yX4_livingShare : MethodName := ⟨RX4, "livingShare", "()F"⟩
abbrev cX4_undo : ByteArray := prog_1_method_34_code
def yX4_undo : MethodName := ⟨RX4, "undo", "()I"⟩
abbrev cX4_needPerson : ByteArray := prog_1_method_37_code
def yX4_needPerson : MethodName := ⟨RX4, "needPerson", "(I)V"⟩
abbrev cX4_needElder : ByteArray := prog_1_method_38_code
def yX4_needElder : MethodName := ⟨RX4, "needElder", "(II)V"⟩
abbrev cX4_needOneOak : ByteArray := prog_1_method_39_code
def yX4_needOneOak : MethodName := ⟨RX4, "needOneOak", "(II)V"⟩
abbrev cX4_begin : ByteArray := prog_1_method_40_code
def yX4_begin : MethodName := ⟨RX4, "begin", "()V"⟩
abbrev cX4_end : ByteArray := prog_1_method_41_code
def yX4_end : MethodName := ⟨RX4, "end", "(I)I"⟩
abbrev cX4_keepBefore : ByteArray := prog_1_method_42_code
def yX4_keepBefore : MethodName := ⟨RX4, "keepBefore", "()V"⟩
abbrev cX4_pastAt : ByteArray := prog_1_method_43_code
def yX4_pastAt : MethodName := ⟨RX4, "pastAt", "(I)LFamilyOaks$Families;"⟩
abbrev cX4_forgetOldest : ByteArray := prog_1_method_44_code
def yX4_forgetOldest : MethodName := ⟨RX4, "forgetOldest", "()V"⟩
abbrev cX4_goBackTo : ByteArray := prog_1_method_45_code
def yX4_goBackTo : MethodName := ⟨RX4, "goBackTo", "(LFamilyOaks$Families;)V"⟩
abbrev cX4_renew : ByteArray := prog_1_method_46_code
def yX4_renew : MethodName := ⟨RX4, "renew", "()V"⟩
abbrev cX4_attempt : ByteArray := prog_1_method_47_code
def yX4_attempt : MethodName := ⟨RX4, "attempt", "(III)I"⟩
abbrev cX4_refuse : ByteArray := prog_1_method_48_code
def yX4_refuse : MethodName := ⟨RX4, "refuse", "(II)I"⟩
abbrev cX4_tryFound : ByteArray := prog_1_method_49_code
def yX4_tryFound : MethodName := ⟨RX4, "tryFound", "()I"⟩
abbrev cX4_tryBorn : ByteArray := prog_1_method_50_code
def yX4_tryBorn : MethodName := ⟨RX4, "tryBorn", "(I)I"⟩
abbrev cX4_tryGraft : ByteArray := prog_1_method_51_code
def yX4_tryGraft : MethodName := ⟨RX4, "tryGraft", "(II)I"⟩
abbrev cX4_tryCut : ByteArray := prog_1_method_52_code
def yX4_tryCut : MethodName := ⟨RX4, "tryCut", "(I)I"⟩
abbrev cX4_tryMarry : ByteArray := prog_1_method_53_code
def yX4_tryMarry : MethodName := ⟨RX4, "tryMarry", "(II)I"⟩
abbrev cX4_tryPart : ByteArray := prog_1_method_54_code
def yX4_tryPart : MethodName := ⟨RX4, "tryPart", "(I)I"⟩
abbrev cX4_tryQuarrel : ByteArray := prog_1_method_55_code
def yX4_tryQuarrel : MethodName := ⟨RX4, "tryQuarrel", "(II)I"⟩
abbrev cX4_tryGive : ByteArray := prog_1_method_56_code
def yX4_tryGive : MethodName := ⟨RX4, "tryGive", "(II)I"⟩
abbrev cX4_tryDie : ByteArray := prog_1_method_57_code
def yX4_tryDie : MethodName := ⟨RX4, "tryDie", "(I)I"⟩
abbrev cX4_isOneOak : ByteArray := prog_1_method_58_code
def yX4_isOneOak : MethodName := ⟨RX4, "isOneOak", "(II)Z"⟩
abbrev cX4_degreeBetween : ByteArray := prog_1_method_59_code
def yX4_degreeBetween : MethodName := ⟨RX4, "degreeBetween", "(II)I"⟩
abbrev cX4_whyNotMarry : ByteArray := prog_1_method_60_code
def yX4_whyNotMarry : MethodName := ⟨RX4, "whyNotMarry", "(II)I"⟩
abbrev cX4_firstDead : ByteArray := prog_1_method_61_code
def yX4_firstDead : MethodName := ⟨RX4, "firstDead", "(II)I"⟩
abbrev cX4_firstSpouse : ByteArray := prog_1_method_62_code
def yX4_firstSpouse : MethodName := ⟨RX4, "firstSpouse", "(II)I"⟩
abbrev cX4_endQuarrelsAtHome : ByteArray := prog_1_method_64_code
def yX4_endQuarrelsAtHome : MethodName := ⟨RX4, "endQuarrelsAtHome", "()I"⟩
abbrev cX4_writePart : ByteArray := prog_1_method_65_code
def yX4_writePart : MethodName := ⟨RX4, "writePart", "(CI)V"⟩
abbrev cX4_areEldersSame : ByteArray := prog_1_method_66_code
def yX4_areEldersSame : MethodName := ⟨RX4, "areEldersSame", "()Z"⟩
abbrev cX4_areCommonsSame : ByteArray := prog_1_method_67_code
def yX4_areCommonsSame : MethodName := ⟨RX4, "areCommonsSame", "()Z"⟩
abbrev cX4_isPeaceAtHome : ByteArray := prog_1_method_68_code
def yX4_isPeaceAtHome : MethodName := ⟨RX4, "isPeaceAtHome", "()Z"⟩
def RX5 : String := "FamilyOaksModel"
def TX5 : u_T := fun k => match k with
  | _ => ("", "", "", false)
def tyX5 : Nat → FieldType := fun k => match k with
  | _ => .int
abbrev wsX50 : List Cond := u_ws RX5 TX5 0
theorem nmX5 : ∀ a, a < 0 → ∀ b, b < 0 → a ≠ b → (TX5 a).2.1 ≠ (TX5 b).2.1 := by decide +kernel
theorem tyX5_ok : ∀ k, k < 0 → parseFieldDescriptor (TX5 k).2.2.1 = some (tyX5 k) := by decide +kernel
def RJx145de : String := "java/io/Serializable"
def TJx145de : u_T := fun k => match k with
  | _ => ("", "", "", false)
def tyJx145de : Nat → FieldType := fun k => match k with
  | _ => .int
abbrev wsJx145de0 : List Cond := u_ws RJx145de TJx145de 0
theorem nmJx145de : ∀ a, a < 0 → ∀ b, b < 0 → a ≠ b → (TJx145de a).2.1 ≠ (TJx145de b).2.1 := by decide +kernel
theorem tyJx145de_ok : ∀ k, k < 0 → parseFieldDescriptor (TJx145de k).2.2.1 = some (tyJx145de k) := by decide +kernel
def RJ5 : String := "java/lang/AbstractStringBuilder"
def TJ5 : u_T := fun k => match k with
  | _ => ("", "", "", false)
def tyJ5 : Nat → FieldType := fun k => match k with
  | _ => .int
abbrev wsJ50 : List Cond := u_ws RJ5 TJ5 0
theorem nmJ5 : ∀ a, a < 0 → ∀ b, b < 0 → a ≠ b → (TJ5 a).2.1 ≠ (TJ5 b).2.1 := by decide +kernel
theorem tyJ5_ok : ∀ k, k < 0 → parseFieldDescriptor (TJ5 k).2.2.1 = some (tyJ5 k) := by decide +kernel
abbrev cJ5_init_d00df : ByteArray := prog_9_method_2_code
def yJ5_init_d00df : MethodName := ⟨RJ5, "<init>", "(I)V"⟩
abbrev cJ5_length_8abf5 : ByteArray := prog_9_method_6_code
def yJ5_length_8abf5 : MethodName := ⟨RJ5, "length", "()I"⟩
abbrev cJ5_ensureCapacityInternal_d00df : ByteArray := prog_9_method_9_code
def yJ5_ensureCapacityInternal_d00df : MethodName := ⟨RJ5, "ensureCapacityInternal", "(I)V"⟩
abbrev cJ5_newCapacity_0f7a4 : ByteArray := prog_9_method_10_code
def yJ5_newCapacity_0f7a4 : MethodName := ⟨RJ5, "newCapacity", "(I)I"⟩
abbrev cJ5_inflate_da8c8 : ByteArray := prog_9_method_11_code
def yJ5_inflate_da8c8 : MethodName := ⟨RJ5, "inflate", "()V"⟩
abbrev cJ5_setLength_d00df : ByteArray := prog_9_method_13_code
def yJ5_setLength_d00df : MethodName := ⟨RJ5, "setLength", "(I)V"⟩
abbrev cJ5_charAt_5068e : ByteArray := prog_9_method_14_code
def yJ5_charAt_5068e : MethodName := ⟨RJ5, "charAt", "(I)C"⟩
abbrev cJ5_append_cf1ce : ByteArray := prog_9_method_22_code
def yJ5_append_cf1ce : MethodName := ⟨RJ5, "append", "(Ljava/lang/String;)Ljava/lang/AbstractStringBuilder;"⟩
abbrev cJ5_appendNull_278bc : ByteArray := prog_9_method_26_code
def yJ5_appendNull_278bc : MethodName := ⟨RJ5, "appendNull", "()Ljava/lang/AbstractStringBuilder;"⟩
abbrev cJ5_append_3fe6f : ByteArray := prog_9_method_31_code
def yJ5_append_3fe6f : MethodName := ⟨RJ5, "append", "(C)Ljava/lang/AbstractStringBuilder;"⟩
abbrev cJ5_append_c97b9 : ByteArray := prog_9_method_32_code
def yJ5_append_c97b9 : MethodName := ⟨RJ5, "append", "(I)Ljava/lang/AbstractStringBuilder;"⟩
abbrev cJ5_getValue_6d5f1 : ByteArray := prog_9_method_64_code
def yJ5_getValue_6d5f1 : MethodName := ⟨RJ5, "getValue", "()[B"⟩
abbrev cJ5_isLatin1_aae02 : ByteArray := prog_9_method_68_code
def yJ5_isLatin1_aae02 : MethodName := ⟨RJ5, "isLatin1", "()Z"⟩
abbrev cJ5_inflateIfNeededFor_a7421 : ByteArray := prog_9_method_71_code
def yJ5_inflateIfNeededFor_a7421 : MethodName := ⟨RJ5, "inflateIfNeededFor", "(Ljava/lang/String;)V"⟩
abbrev cJ5_putStringAt_47b60 : ByteArray := prog_9_method_73_code
def yJ5_putStringAt_47b60 : MethodName := ⟨RJ5, "putStringAt", "(ILjava/lang/String;)V"⟩
def RJx2cfe8 : String := "java/lang/Appendable"
def TJx2cfe8 : u_T := fun k => match k with
  | _ => ("", "", "", false)
def tyJx2cfe8 : Nat → FieldType := fun k => match k with
  | _ => .int
abbrev wsJx2cfe80 : List Cond := u_ws RJx2cfe8 TJx2cfe8 0
theorem nmJx2cfe8 : ∀ a, a < 0 → ∀ b, b < 0 → a ≠ b → (TJx2cfe8 a).2.1 ≠ (TJx2cfe8 b).2.1 := by decide +kernel
theorem tyJx2cfe8_ok : ∀ k, k < 0 → parseFieldDescriptor (TJx2cfe8 k).2.2.1 = some (tyJx2cfe8 k) := by decide +kernel
def RJx00060 : String := "java/lang/ArrayIndexOutOfBoundsException"
def TJx00060 : u_T := fun k => match k with
  | 0 => ("java/lang/Throwable", "backtrace", "Ljava/lang/Object;", false)
  | 1 => ("java/lang/Throwable", "detailMessage", "Ljava/lang/String;", false)
  | 2 => ("java/lang/Throwable", "cause", "Ljava/lang/Throwable;", false)
  | 3 => ("java/lang/Throwable", "stackTrace", "[Ljava/lang/StackTraceElement;", false)
  | 4 => ("java/lang/Throwable", "depth", "I", false)
  | _ => ("java/lang/Throwable", "suppressedExceptions", "Ljava/util/List;", false)
def tyJx00060 : Nat → FieldType := fun k => match k with
  | 0 => .object "java/lang/Object"
  | 1 => .object "java/lang/String"
  | 2 => .object "java/lang/Throwable"
  | 3 => .array (.object "java/lang/StackTraceElement")
  | 4 => .int
  | _ => .object "java/util/List"
abbrev wsJx000600 : List Cond := u_ws RJx00060 TJx00060 6
theorem nmJx00060 : ∀ a, a < 6 → ∀ b, b < 6 → a ≠ b → (TJx00060 a).2.1 ≠ (TJx00060 b).2.1 := by decide +kernel
theorem tyJx00060_ok : ∀ k, k < 6 → parseFieldDescriptor (TJx00060 k).2.2.1 = some (tyJx00060 k) := by decide +kernel
abbrev cJx00060_init_a7421 : ByteArray := prog_12_method_2_code
def yJx00060_init_a7421 : MethodName := ⟨RJx00060, "<init>", "(Ljava/lang/String;)V"⟩
abbrev cJx00060_init_d00df : ByteArray := prog_12_method_3_code
def yJx00060_init_d00df : MethodName := ⟨RJx00060, "<init>", "(I)V"⟩
def RJx9f9b0 : String := "java/lang/CharSequence"
def TJx9f9b0 : u_T := fun k => match k with
  | _ => ("", "", "", false)
def tyJx9f9b0 : Nat → FieldType := fun k => match k with
  | _ => .int
abbrev wsJx9f9b00 : List Cond := u_ws RJx9f9b0 TJx9f9b0 0
theorem nmJx9f9b0 : ∀ a, a < 0 → ∀ b, b < 0 → a ≠ b → (TJx9f9b0 a).2.1 ≠ (TJx9f9b0 b).2.1 := by decide +kernel
theorem tyJx9f9b0_ok : ∀ k, k < 0 → parseFieldDescriptor (TJx9f9b0 k).2.2.1 = some (tyJx9f9b0 k) := by decide +kernel
def RJx8e188 : String := "java/lang/Cloneable"
def TJx8e188 : u_T := fun k => match k with
  | _ => ("", "", "", false)
def tyJx8e188 : Nat → FieldType := fun k => match k with
  | _ => .int
abbrev wsJx8e1880 : List Cond := u_ws RJx8e188 TJx8e188 0
theorem nmJx8e188 : ∀ a, a < 0 → ∀ b, b < 0 → a ≠ b → (TJx8e188 a).2.1 ≠ (TJx8e188 b).2.1 := by decide +kernel
theorem tyJx8e188_ok : ∀ k, k < 0 → parseFieldDescriptor (TJx8e188 k).2.2.1 = some (tyJx8e188 k) := by decide +kernel
def RJxb160c : String := "java/lang/Comparable"
def TJxb160c : u_T := fun k => match k with
  | _ => ("", "", "", false)
def tyJxb160c : Nat → FieldType := fun k => match k with
  | _ => .int
abbrev wsJxb160c0 : List Cond := u_ws RJxb160c TJxb160c 0
theorem nmJxb160c : ∀ a, a < 0 → ∀ b, b < 0 → a ≠ b → (TJxb160c a).2.1 ≠ (TJxb160c b).2.1 := by decide +kernel
theorem tyJxb160c_ok : ∀ k, k < 0 → parseFieldDescriptor (TJxb160c k).2.2.1 = some (tyJxb160c k) := by decide +kernel
def RJ6 : String := "java/lang/Integer"
def TJ6 : u_T := fun k => match k with
  | _ => ("", "", "", false)
def tyJ6 : Nat → FieldType := fun k => match k with
  | _ => .int
abbrev wsJ60 : List Cond := u_ws RJ6 TJ6 0
theorem nmJ6 : ∀ a, a < 0 → ∀ b, b < 0 → a ≠ b → (TJ6 a).2.1 ≠ (TJ6 b).2.1 := by decide +kernel
theorem tyJ6_ok : ∀ k, k < 0 → parseFieldDescriptor (TJ6 k).2.2.1 = some (tyJ6 k) := by decide +kernel
abbrev cJ6_getChars_ba4f3 : ByteArray := prog_20_method_12_code
def yJ6_getChars_ba4f3 : MethodName := ⟨RJ6, "getChars", "(II[B)I"⟩
abbrev cJ6_stringSize_0f7a4 : ByteArray := prog_20_method_13_code
def yJ6_stringSize_0f7a4 : MethodName := ⟨RJ6, "stringSize", "(I)I"⟩
def RJ9 : String := "java/lang/Math"
def TJ9 : u_T := fun k => match k with
  | _ => ("", "", "", false)
def tyJ9 : Nat → FieldType := fun k => match k with
  | _ => .int
abbrev wsJ90 : List Cond := u_ws RJ9 TJ9 0
theorem nmJ9 : ∀ a, a < 0 → ∀ b, b < 0 → a ≠ b → (TJ9 a).2.1 ≠ (TJ9 b).2.1 := by decide +kernel
theorem tyJ9_ok : ∀ k, k < 0 → parseFieldDescriptor (TJ9 k).2.2.1 = some (tyJ9 k) := by decide +kernel
abbrev cJ9_max_7cf53 : ByteArray := prog_21_method_65_code
def yJ9_max_7cf53 : MethodName := ⟨RJ9, "max", "(II)I"⟩
abbrev cJ9_min_7cf53 : ByteArray := prog_21_method_69_code
def yJ9_min_7cf53 : MethodName := ⟨RJ9, "min", "(II)I"⟩
def RJxd2413 : String := "java/lang/Number"
def TJxd2413 : u_T := fun k => match k with
  | _ => ("", "", "", false)
def tyJxd2413 : Nat → FieldType := fun k => match k with
  | _ => .int
abbrev wsJxd24130 : List Cond := u_ws RJxd2413 TJxd2413 0
theorem nmJxd2413 : ∀ a, a < 0 → ∀ b, b < 0 → a ≠ b → (TJxd2413 a).2.1 ≠ (TJxd2413 b).2.1 := by decide +kernel
theorem tyJxd2413_ok : ∀ k, k < 0 → parseFieldDescriptor (TJxd2413 k).2.2.1 = some (tyJxd2413 k) := by decide +kernel
def RJ0 : String := "java/lang/String"
def TJ0 : u_T := fun k => match k with
  | 0 => ("java/lang/String", "value", "[B", true)
  | 1 => ("java/lang/String", "coder", "B", true)
  | 2 => ("java/lang/String", "hash", "I", false)
  | _ => ("java/lang/String", "hashIsZero", "Z", false)
def tyJ0 : Nat → FieldType := fun k => match k with
  | 0 => .array .byte
  | 1 => .byte
  | 2 => .int
  | _ => .boolean
abbrev wsJ00 : List Cond := u_ws RJ0 TJ0 4
theorem nmJ0 : ∀ a, a < 4 → ∀ b, b < 4 → a ≠ b → (TJ0 a).2.1 ≠ (TJ0 b).2.1 := by decide +kernel
theorem tyJ0_ok : ∀ k, k < 4 → parseFieldDescriptor (TJ0 k).2.2.1 = some (tyJ0 k) := by decide +kernel
abbrev cJ0_init_81219 : ByteArray := prog_24_method_53_code
def yJ0_init_81219 : MethodName := ⟨RJ0, "<init>", "(Ljava/lang/StringBuilder;)V"⟩
abbrev cJ0_length_8abf5 : ByteArray := prog_24_method_54_code
def yJ0_length_8abf5 : MethodName := ⟨RJ0, "length", "()I"⟩
abbrev cJ0_charAt_5068e : ByteArray := prog_24_method_56_code
def yJ0_charAt_5068e : MethodName := ⟨RJ0, "charAt", "(I)C"⟩
abbrev cJ0_getBytes_840e7 : ByteArray := prog_24_method_147_code
def yJ0_getBytes_840e7 : MethodName := ⟨RJ0, "getBytes", "([BIB)V"⟩
abbrev cJ0_init_db425 : ByteArray := prog_24_method_150_code
def yJ0_init_db425 : MethodName := ⟨RJ0, "<init>", "(Ljava/lang/AbstractStringBuilder;Ljava/lang/Void;)V"⟩
abbrev cJ0_coder_7d493 : ByteArray := prog_24_method_152_code
def yJ0_coder_7d493 : MethodName := ⟨RJ0, "coder", "()B"⟩
abbrev cJ0_isLatin1_aae02 : ByteArray := prog_24_method_154_code
def yJ0_isLatin1_aae02 : MethodName := ⟨RJ0, "isLatin1", "()Z"⟩
abbrev cJ0_checkIndex_df160 : ByteArray := prog_24_method_155_code
def yJ0_checkIndex_df160 : MethodName := ⟨RJ0, "checkIndex", "(II)V"⟩
abbrev cJ0_checkBoundsOffCount_cabcc : ByteArray := prog_24_method_157_code
def yJ0_checkBoundsOffCount_cabcc : MethodName := ⟨RJ0, "checkBoundsOffCount", "(III)I"⟩
abbrev cJ0_checkBoundsBeginEnd_23922 : ByteArray := prog_24_method_158_code
def yJ0_checkBoundsBeginEnd_23922 : MethodName := ⟨RJ0, "checkBoundsBeginEnd", "(III)V"⟩
def RJ4 : String := "java/lang/StringBuilder"
def TJ4 : u_T := fun k => match k with
  | 0 => ("java/lang/AbstractStringBuilder", "value", "[B", false)
  | 1 => ("java/lang/AbstractStringBuilder", "coder", "B", false)
  | 2 => ("java/lang/AbstractStringBuilder", "maybeLatin1", "Z", false)
  | _ => ("java/lang/AbstractStringBuilder", "count", "I", false)
def tyJ4 : Nat → FieldType := fun k => match k with
  | 0 => .array .byte
  | 1 => .byte
  | 2 => .boolean
  | _ => .int
abbrev wsJ40 : List Cond := u_ws RJ4 TJ4 4
theorem nmJ4 : ∀ a, a < 4 → ∀ b, b < 4 → a ≠ b → (TJ4 a).2.1 ≠ (TJ4 b).2.1 := by decide +kernel
theorem tyJ4_ok : ∀ k, k < 4 → parseFieldDescriptor (TJ4 k).2.2.1 = some (tyJ4 k) := by decide +kernel
abbrev cJ4_init_da8c8 : ByteArray := prog_25_method_1_code
def yJ4_init_da8c8 : MethodName := ⟨RJ4, "<init>", "()V"⟩
abbrev cJ4_append_15ec4 : ByteArray := prog_25_method_7_code
def yJ4_append_15ec4 : MethodName := ⟨RJ4, "append", "(Ljava/lang/String;)Ljava/lang/StringBuilder;"⟩
abbrev cJ4_append_cf468 : ByteArray := prog_25_method_14_code
def yJ4_append_cf468 : MethodName := ⟨RJ4, "append", "(C)Ljava/lang/StringBuilder;"⟩
abbrev cJ4_append_bf812 : ByteArray := prog_25_method_15_code
def yJ4_append_bf812 : MethodName := ⟨RJ4, "append", "(I)Ljava/lang/StringBuilder;"⟩
abbrev cJ4_toString_0e30d : ByteArray := prog_25_method_42_code
def yJ4_toString_0e30d : MethodName := ⟨RJ4, "toString", "()Ljava/lang/String;"⟩
abbrev cJ4_charAt_5068e : ByteArray := prog_25_method_88_code
def yJ4_charAt_5068e : MethodName := ⟨RJ4, "charAt", "(I)C"⟩
abbrev cJ4_setLength_d00df : ByteArray := prog_25_method_89_code
def yJ4_setLength_d00df : MethodName := ⟨RJ4, "setLength", "(I)V"⟩
abbrev cJ4_length_8abf5 : ByteArray := prog_25_method_93_code
def yJ4_length_8abf5 : MethodName := ⟨RJ4, "length", "()I"⟩
def RJx7c733 : String := "java/lang/StringIndexOutOfBoundsException"
def TJx7c733 : u_T := fun k => match k with
  | 0 => ("java/lang/Throwable", "backtrace", "Ljava/lang/Object;", false)
  | 1 => ("java/lang/Throwable", "detailMessage", "Ljava/lang/String;", false)
  | 2 => ("java/lang/Throwable", "cause", "Ljava/lang/Throwable;", false)
  | 3 => ("java/lang/Throwable", "stackTrace", "[Ljava/lang/StackTraceElement;", false)
  | 4 => ("java/lang/Throwable", "depth", "I", false)
  | _ => ("java/lang/Throwable", "suppressedExceptions", "Ljava/util/List;", false)
def tyJx7c733 : Nat → FieldType := fun k => match k with
  | 0 => .object "java/lang/Object"
  | 1 => .object "java/lang/String"
  | 2 => .object "java/lang/Throwable"
  | 3 => .array (.object "java/lang/StackTraceElement")
  | 4 => .int
  | _ => .object "java/util/List"
abbrev wsJx7c7330 : List Cond := u_ws RJx7c733 TJx7c733 6
theorem nmJx7c733 : ∀ a, a < 6 → ∀ b, b < 6 → a ≠ b → (TJx7c733 a).2.1 ≠ (TJx7c733 b).2.1 := by decide +kernel
theorem tyJx7c733_ok : ∀ k, k < 6 → parseFieldDescriptor (TJx7c733 k).2.2.1 = some (tyJx7c733 k) := by decide +kernel
abbrev cJx7c733_init_d00df : ByteArray := prog_26_method_3_code
def yJx7c733_init_d00df : MethodName := ⟨RJx7c733, "<init>", "(I)V"⟩
def RJ1 : String := "java/lang/StringLatin1"
def TJ1 : u_T := fun k => match k with
  | _ => ("", "", "", false)
def tyJ1 : Nat → FieldType := fun k => match k with
  | _ => .int
abbrev wsJ10 : List Cond := u_ws RJ1 TJ1 0
theorem nmJ1 : ∀ a, a < 0 → ∀ b, b < 0 → a ≠ b → (TJ1 a).2.1 ≠ (TJ1 b).2.1 := by decide +kernel
theorem tyJ1_ok : ∀ k, k < 0 → parseFieldDescriptor (TJ1 k).2.2.1 = some (tyJ1 k) := by decide +kernel
abbrev cJ1_charAt_3b067 : ByteArray := prog_27_method_2_code
def yJ1_charAt_3b067 : MethodName := ⟨RJ1, "charAt", "([BI)C"⟩
abbrev cJ1_canEncode_fc78d : ByteArray := prog_27_method_3_code
def yJ1_canEncode_fc78d : MethodName := ⟨RJ1, "canEncode", "(C)Z"⟩
abbrev cJ1_fillNull_b72d1 : ByteArray := prog_27_method_48_code
def yJ1_fillNull_b72d1 : MethodName := ⟨RJ1, "fillNull", "([BII)V"⟩
abbrev cJ1_inflate_0e8fd : ByteArray := prog_27_method_50_code
def yJ1_inflate_0e8fd : MethodName := ⟨RJ1, "inflate", "([BI[BII)V"⟩
def RJ2 : String := "java/lang/StringUTF16"
def TJ2 : u_T := fun k => match k with
  | _ => ("", "", "", false)
def tyJ2 : Nat → FieldType := fun k => match k with
  | _ => .int
abbrev wsJ20 : List Cond := u_ws RJ2 TJ2 0
theorem nmJ2 : ∀ a, a < 0 → ∀ b, b < 0 → a ≠ b → (TJ2 a).2.1 ≠ (TJ2 b).2.1 := by decide +kernel
theorem tyJ2_ok : ∀ k, k < 0 → parseFieldDescriptor (TJ2 k).2.2.1 = some (tyJ2 k) := by decide +kernel
abbrev cJ2_newBytesFor_77867 : ByteArray := prog_28_method_2_code
def yJ2_newBytesFor_77867 : MethodName := ⟨RJ2, "newBytesFor", "(I)[B"⟩
abbrev cJ2_newBytesLength_0f7a4 : ByteArray := prog_28_method_3_code
def yJ2_newBytesLength_0f7a4 : MethodName := ⟨RJ2, "newBytesLength", "(I)I"⟩
abbrev cJ2_putChar_b72d1 : ByteArray := prog_28_method_4_code
def yJ2_putChar_b72d1 : MethodName := ⟨RJ2, "putChar", "([BII)V"⟩
abbrev cJ2_getChar_3b067 : ByteArray := prog_28_method_5_code
def yJ2_getChar_3b067 : MethodName := ⟨RJ2, "getChar", "([BI)C"⟩
abbrev cJ2_length_9d52b : ByteArray := prog_28_method_6_code
def yJ2_length_9d52b : MethodName := ⟨RJ2, "length", "([B)I"⟩
abbrev cJ2_coderFromArrayLen_85cad : ByteArray := prog_28_method_15_code
def yJ2_coderFromArrayLen_85cad : MethodName := ⟨RJ2, "coderFromArrayLen", "([BI)B"⟩
abbrev cJ2_compress_39247 : ByteArray := prog_28_method_17_code
def yJ2_compress_39247 : MethodName := ⟨RJ2, "compress", "([BII)[B"⟩
abbrev cJ2_compress_5af95 : ByteArray := prog_28_method_22_code
def yJ2_compress_5af95 : MethodName := ⟨RJ2, "compress", "([BI[BII)I"⟩
abbrev cJ2_fillNull_b72d1 : ByteArray := prog_28_method_70_code
def yJ2_fillNull_b72d1 : MethodName := ⟨RJ2, "fillNull", "([BII)V"⟩
abbrev cJ2_putCharSB_b72d1 : ByteArray := prog_28_method_71_code
def yJ2_putCharSB_b72d1 : MethodName := ⟨RJ2, "putCharSB", "([BII)V"⟩
abbrev cJ2_getChars_46870 : ByteArray := prog_28_method_77_code
def yJ2_getChars_46870 : MethodName := ⟨RJ2, "getChars", "(III[B)I"⟩
abbrev cJ2_putCharsAt_cd4e5 : ByteArray := prog_28_method_81_code
def yJ2_putCharsAt_cd4e5 : MethodName := ⟨RJ2, "putCharsAt", "([BICCCC)I"⟩
abbrev cJ2_charAt_3b067 : ByteArray := prog_28_method_83_code
def yJ2_charAt_3b067 : MethodName := ⟨RJ2, "charAt", "([BI)C"⟩
abbrev cJ2_inflate_0e8fd : ByteArray := prog_28_method_86_code
def yJ2_inflate_0e8fd : MethodName := ⟨RJ2, "inflate", "([BI[BII)V"⟩
abbrev cJ2_getChars_ba4f3 : ByteArray := prog_28_method_89_code
def yJ2_getChars_ba4f3 : MethodName := ⟨RJ2, "getChars", "(II[B)I"⟩
abbrev cJ2_checkIndex_2214a : ByteArray := prog_28_method_91_code
def yJ2_checkIndex_2214a : MethodName := ⟨RJ2, "checkIndex", "(I[B)V"⟩
abbrev cJ2_checkBoundsBeginEnd_d044e : ByteArray := prog_28_method_93_code
def yJ2_checkBoundsBeginEnd_d044e : MethodName := ⟨RJ2, "checkBoundsBeginEnd", "(II[B)V"⟩
abbrev cJ2_checkBoundsOffCount_d044e : ByteArray := prog_28_method_94_code
def yJ2_checkBoundsOffCount_d044e : MethodName := ⟨RJ2, "checkBoundsOffCount", "(II[B)V"⟩
def RJ10 : String := "java/lang/System"
def TJ10 : u_T := fun k => match k with
  | _ => ("", "", "", false)
def tyJ10 : Nat → FieldType := fun k => match k with
  | _ => .int
abbrev wsJ100 : List Cond := u_ws RJ10 TJ10 0
theorem nmJ10 : ∀ a, a < 0 → ∀ b, b < 0 → a ≠ b → (TJ10 a).2.1 ≠ (TJ10 b).2.1 := by decide +kernel
theorem tyJ10_ok : ∀ k, k < 0 → parseFieldDescriptor (TJ10 k).2.2.1 = some (tyJ10 k) := by decide +kernel
def RJxfd54e : String := "java/lang/constant/Constable"
def TJxfd54e : u_T := fun k => match k with
  | _ => ("", "", "", false)
def tyJxfd54e : Nat → FieldType := fun k => match k with
  | _ => .int
abbrev wsJxfd54e0 : List Cond := u_ws RJxfd54e TJxfd54e 0
theorem nmJxfd54e : ∀ a, a < 0 → ∀ b, b < 0 → a ≠ b → (TJxfd54e a).2.1 ≠ (TJxfd54e b).2.1 := by decide +kernel
theorem tyJxfd54e_ok : ∀ k, k < 0 → parseFieldDescriptor (TJxfd54e k).2.2.1 = some (tyJxfd54e k) := by decide +kernel
def RJx3cf43 : String := "java/lang/constant/ConstantDesc"
def TJx3cf43 : u_T := fun k => match k with
  | _ => ("", "", "", false)
def tyJx3cf43 : Nat → FieldType := fun k => match k with
  | _ => .int
abbrev wsJx3cf430 : List Cond := u_ws RJx3cf43 TJx3cf43 0
theorem nmJx3cf43 : ∀ a, a < 0 → ∀ b, b < 0 → a ≠ b → (TJx3cf43 a).2.1 ≠ (TJx3cf43 b).2.1 := by decide +kernel
theorem tyJx3cf43_ok : ∀ k, k < 0 → parseFieldDescriptor (TJx3cf43 k).2.2.1 = some (tyJx3cf43 k) := by decide +kernel
def RJ7 : String := "java/util/Arrays"
def TJ7 : u_T := fun k => match k with
  | _ => ("", "", "", false)
def tyJ7 : Nat → FieldType := fun k => match k with
  | _ => .int
abbrev wsJ70 : List Cond := u_ws RJ7 TJ7 0
theorem nmJ7 : ∀ a, a < 0 → ∀ b, b < 0 → a ≠ b → (TJ7 a).2.1 ≠ (TJ7 b).2.1 := by decide +kernel
theorem tyJ7_ok : ∀ k, k < 0 → parseFieldDescriptor (TJ7 k).2.2.1 = some (tyJ7 k) := by decide +kernel
abbrev cJ7_rangeCheck_23922 : ByteArray := prog_34_method_30_code
def yJ7_rangeCheck_23922 : MethodName := ⟨RJ7, "rangeCheck", "(III)V"⟩
abbrev cJ7_fill_eb02e : ByteArray := prog_34_method_110_code
def yJ7_fill_eb02e : MethodName := ⟨RJ7, "fill", "([BIIB)V"⟩
abbrev cJ7_copyOf_9075b : ByteArray := prog_34_method_121_code
def yJ7_copyOf_9075b : MethodName := ⟨RJ7, "copyOf", "([BI)[B"⟩
abbrev cJ7_checkLength_df160 : ByteArray := prog_34_method_131_code
def yJ7_checkLength_df160 : MethodName := ⟨RJ7, "checkLength", "(II)V"⟩
abbrev cJ7_copyOfRange_39247 : ByteArray := prog_34_method_132_code
def yJ7_copyOfRange_39247 : MethodName := ⟨RJ7, "copyOfRange", "([BII)[B"⟩
abbrev cJ7_copyOfRangeByte_39247 : ByteArray := prog_34_method_133_code
def yJ7_copyOfRangeByte_39247 : MethodName := ⟨RJ7, "copyOfRangeByte", "([BII)[B"⟩
def RJ8 : String := "jdk/internal/util/ArraysSupport"
def TJ8 : u_T := fun k => match k with
  | _ => ("", "", "", false)
def tyJ8 : Nat → FieldType := fun k => match k with
  | _ => .int
abbrev wsJ80 : List Cond := u_ws RJ8 TJ8 0
theorem nmJ8 : ∀ a, a < 0 → ∀ b, b < 0 → a ≠ b → (TJ8 a).2.1 ≠ (TJ8 b).2.1 := by decide +kernel
theorem tyJ8_ok : ∀ k, k < 0 → parseFieldDescriptor (TJ8 k).2.2.1 = some (tyJ8 k) := by decide +kernel
abbrev cJ8_newLength_cabcc : ByteArray := prog_36_method_27_code
def yJ8_newLength_cabcc : MethodName := ⟨RJ8, "newLength", "(III)I"⟩
abbrev cJ8_hugeLength_7cf53 : ByteArray := prog_36_method_28_code
def yJ8_hugeLength_7cf53 : MethodName := ⟨RJ8, "hugeLength", "(II)I"⟩
def RJ3 : String := "jdk/internal/util/Preconditions"
def TJ3 : u_T := fun k => match k with
  | _ => ("", "", "", false)
def tyJ3 : Nat → FieldType := fun k => match k with
  | _ => .int
abbrev wsJ30 : List Cond := u_ws RJ3 TJ3 0
theorem nmJ3 : ∀ a, a < 0 → ∀ b, b < 0 → a ≠ b → (TJ3 a).2.1 ≠ (TJ3 b).2.1 := by decide +kernel
theorem tyJ3_ok : ∀ k, k < 0 → parseFieldDescriptor (TJ3 k).2.2.1 = some (tyJ3 k) := by decide +kernel
abbrev cJ3_checkIndex_8e157 : ByteArray := prog_37_method_11_code
def yJ3_checkIndex_8e157 : MethodName := ⟨RJ3, "checkIndex", "(IILjava/util/function/BiFunction;)I"⟩
abbrev cJ3_checkFromToIndex_8c36e : ByteArray := prog_37_method_12_code
def yJ3_checkFromToIndex_8c36e : MethodName := ⟨RJ3, "checkFromToIndex", "(IIILjava/util/function/BiFunction;)I"⟩
abbrev cJ3_checkFromIndexSize_8c36e : ByteArray := prog_37_method_13_code
def yJ3_checkFromIndexSize_8c36e : MethodName := ⟨RJ3, "checkFromIndexSize", "(IIILjava/util/function/BiFunction;)I"⟩
def RL : String := "FamilyOaksLaw"
abbrev cL_cell : ByteArray := method_2_code
def yL_cell : MethodName := ⟨RL, "cell", "([II)I"⟩
abbrev cL_found : ByteArray := method_3_code
def yL_found : MethodName := ⟨RL, "found", "(LFamilyOaks;)I"⟩
abbrev cL_born : ByteArray := method_4_code
def yL_born : MethodName := ⟨RL, "born", "(LFamilyOaks;I)I"⟩
abbrev cL_graft : ByteArray := method_5_code
def yL_graft : MethodName := ⟨RL, "graft", "(LFamilyOaks;II)I"⟩
abbrev cL_cut : ByteArray := method_6_code
def yL_cut : MethodName := ⟨RL, "cut", "(LFamilyOaks;I)I"⟩
abbrev cL_of : ByteArray := method_7_code
def yL_of : MethodName := ⟨RL, "of", "(LFamilyOaks;II)I"⟩
abbrev cL_elder : ByteArray := method_8_code
def yL_elder : MethodName := ⟨RL, "elder", "(LFamilyOaks;IIZ)I"⟩
abbrev cL_common : ByteArray := method_9_code
def yL_common : MethodName := ⟨RL, "common", "(LFamilyOaks;IIZ)I"⟩
abbrev cL_degree : ByteArray := method_10_code
def yL_degree : MethodName := ⟨RL, "degree", "(LFamilyOaks;II)I"⟩
abbrev cL_leaps : ByteArray := method_11_code
def yL_leaps : MethodName := ⟨RL, "leaps", "(LFamilyOaks;II)I"⟩
abbrev cL_farthest : ByteArray := method_12_code
def yL_farthest : MethodName := ⟨RL, "farthest", "(LFamilyOaks;I)I"⟩
abbrev cL_descendant : ByteArray := method_13_code
def yL_descendant : MethodName := ⟨RL, "descendant", "(LFamilyOaks;II)I"⟩
abbrev cL_marry : ByteArray := method_14_code
def yL_marry : MethodName := ⟨RL, "marry", "(LFamilyOaks;II)I"⟩
abbrev cL_part : ByteArray := method_15_code
def yL_part : MethodName := ⟨RL, "part", "(LFamilyOaks;I)I"⟩
abbrev cL_quarrel : ByteArray := method_16_code
def yL_quarrel : MethodName := ⟨RL, "quarrel", "(LFamilyOaks;II)I"⟩
abbrev cL_quarrelAt : ByteArray := method_17_code
def yL_quarrelAt : MethodName := ⟨RL, "quarrelAt", "(LFamilyOaks;IZ)I"⟩
abbrev cL_give : ByteArray := method_19_code
def yL_give : MethodName := ⟨RL, "give", "(LFamilyOaks;II)I"⟩
abbrev cL_die : ByteArray := method_20_code
def yL_die : MethodName := ⟨RL, "die", "(LFamilyOaks;I)I"⟩
abbrev cL_heir : ByteArray := method_21_code
def yL_heir : MethodName := ⟨RL, "heir", "(LFamilyOaks;I)I"⟩
abbrev cL_ranked : ByteArray := method_22_code
def yL_ranked : MethodName := ⟨RL, "ranked", "(LFamilyOaks;I)I"⟩
abbrev cL_line : ByteArray := method_23_code
def yL_line : MethodName := ⟨RL, "line", "(LFamilyOaks;I)I"⟩
abbrev cL_character : ByteArray := method_24_code
def yL_character : MethodName := ⟨RL, "character", "(LFamilyOaks;I)I"⟩
abbrev cL_append : ByteArray := method_25_code
def yL_append : MethodName := ⟨RL, "append", "(LFamilyOaks;C)I"⟩
abbrev cL_runs : ByteArray := method_26_code
def yL_runs : MethodName := ⟨RL, "runs", "(LFamilyOaks;)I"⟩
abbrev cL_run : ByteArray := method_27_code
def yL_run : MethodName := ⟨RL, "run", "(LFamilyOaks;Ljava/lang/String;)I"⟩
abbrev cL_undo : ByteArray := method_29_code
def yL_undo : MethodName := ⟨RL, "undo", "(LFamilyOaks;)I"⟩
abbrev cL_drawn : ByteArray := method_30_code
def yL_drawn : MethodName := ⟨RL, "drawn", "([I)LFamilyOaks;"⟩
abbrev cL_houses : ByteArray := method_31_code
def yL_houses : MethodName := ⟨RL, "houses", "(LFamilyOaks;)[I"⟩
abbrev cL_law : ByteArray := code
def yL_law : MethodName := ⟨RL, "law", "([I)Z"⟩
abbrev cL_persons : ByteArray := method_33_code
def yL_persons : MethodName := ⟨RL, "persons", "(LFamilyOaks;)Z"⟩
abbrev cL_descend : ByteArray := method_34_code
def yL_descend : MethodName := ⟨RL, "descend", "(LFamilyOaks;II)Z"⟩
abbrev cL_pairs : ByteArray := method_35_code
def yL_pairs : MethodName := ⟨RL, "pairs", "([ILFamilyOaks;)Z"⟩
abbrev cL_heirs : ByteArray := method_36_code
def yL_heirs : MethodName := ⟨RL, "heirs", "(LFamilyOaks;)Z"⟩
abbrev cL_told : ByteArray := method_37_code
def yL_told : MethodName := ⟨RL, "told", "(LFamilyOaks;)Z"⟩
abbrev cL_accounts : ByteArray := method_38_code
def yL_accounts : MethodName := ⟨RL, "accounts", "(LFamilyOaks;)Z"⟩
abbrev cL_sum : ByteArray := method_39_code
def yL_sum : MethodName := ⟨RL, "sum", "(LFamilyOaks;)J"⟩
abbrev cL_undone : ByteArray := method_40_code
def yL_undone : MethodName := ⟨RL, "undone", "([ILFamilyOaks;)Z"⟩
def R_law : String := "FamilyOaksLaw"
/-- words that follow from the tables: private methods of StringBuilder's superclass are selected -/
def lw_ext : List Cond := [.selects RJ4 yJ5_ensureCapacityInternal_d00df yJ5_ensureCapacityInternal_d00df, .selects RJ4 yJ5_newCapacity_0f7a4 yJ5_newCapacity_0f7a4, .selects RJ4 yJ5_putStringAt_47b60 yJ5_putStringAt_47b60, .selects RJ4 yJ5_inflateIfNeededFor_a7421 yJ5_inflateIfNeededFor_a7421]
/-- the words of the tables that every method takes along -/
def jWL : List Cond := (lw_tbl ++ lw_ext).filter goodWord
theorem jw_mem {c : Cond} (i : Nat) (h : lw_tbl[i]? = some c) (hg : goodWord c = true) : c ∈ jWL := List.mem_filter.mpr ⟨List.mem_append_left _ (List.mem_of_getElem? h), hg⟩
theorem jw_mem2 {c : Cond} (i : Nat) (h : lw_ext[i]? = some c) (hg : goodWord c = true) : c ∈ jWL := List.mem_filter.mpr ⟨List.mem_append_right _ (List.mem_of_getElem? h), hg⟩
theorem jw_good {c : Cond} (h : c ∈ jWL) : c ∈ lw_tbl ++ lw_ext ∧ ((c.onTables && c.keeps) = true ∨ ∃ ty, c = .arrayClass ty) := by
  obtain ⟨h1, h2⟩ := List.mem_filter.mp h
  refine ⟨h1, ?_⟩
  exact good_of_word h2

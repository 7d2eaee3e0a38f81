def RX0 : String := "CloudDeeds$1"
def TX0 : u_T := fun k => match k with
  | _ => ("", "", "", false)
def tyX0 : Nat → FieldType := fun k => match k with
  | _ => .int
theorem nmX0 : ∀ a, a < 0 → ∀ b, b < 0 → a ≠ b → (TX0 a).2.1 ≠ (TX0 b).2.1 := by decide +kernel
theorem tyX0_ok : ∀ k, k < 0 → parseFieldDescriptor (TX0 k).2.2.1 = some (tyX0 k) := by decide +kernel
def RX1 : String := "CloudDeeds$Cloud"
def TX1 : u_T := fun k => match k with
  | 0 => ("CloudDeeds$Cloud", "vineyard", "I", false)
  | 1 => ("CloudDeeds$Cloud", "shape", "I", false)
  | 2 => ("CloudDeeds$Cloud", "size", "I", false)
  | 3 => ("CloudDeeds$Cloud", "owner", "I", false)
  | 4 => ("CloudDeeds$Cloud", "titleShape", "I", false)
  | 5 => ("CloudDeeds$Cloud", "lender", "I", false)
  | _ => ("CloudDeeds$Cloud", "pledgedSize", "I", false)
def tyX1 : Nat → FieldType := fun k => match k with
  | 0 => .int
  | 1 => .int
  | 2 => .int
  | 3 => .int
  | 4 => .int
  | 5 => .int
  | _ => .int
theorem nmX1 : ∀ a, a < 7 → ∀ b, b < 7 → a ≠ b → (TX1 a).2.1 ≠ (TX1 b).2.1 := by decide +kernel
theorem tyX1_ok : ∀ k, k < 7 → parseFieldDescriptor (TX1 k).2.2.1 = some (tyX1 k) := by decide +kernel
abbrev cX1_init : ByteArray := prog_3_method_1_code
def yX1_init : MethodName := ⟨RX1, "<init>", "()V"⟩
abbrev cX1_copyFrom : ByteArray := prog_3_method_2_code
def yX1_copyFrom : MethodName := ⟨RX1, "copyFrom", "(LCloudDeeds$Cloud;)V"⟩
abbrev cX1_comeOver : ByteArray := prog_3_method_3_code
def yX1_comeOver : MethodName := ⟨RX1, "comeOver", "(III)V"⟩
abbrev cX1_hasTitle : ByteArray := prog_3_method_4_code
def yX1_hasTitle : MethodName := ⟨RX1, "hasTitle", "()Z"⟩
abbrev cX1_isPledged : ByteArray := prog_3_method_5_code
def yX1_isPledged : MethodName := ⟨RX1, "isPledged", "()Z"⟩
abbrev cX1_hasTitleForOtherShape : ByteArray := prog_3_method_6_code
def yX1_hasTitleForOtherShape : MethodName := ⟨RX1, "hasTitleForOtherShape", "()Z"⟩
abbrev cX1_entitle : ByteArray := prog_3_method_7_code
def yX1_entitle : MethodName := ⟨RX1, "entitle", "(I)V"⟩
abbrev cX1_loseTitle : ByteArray := prog_3_method_8_code
def yX1_loseTitle : MethodName := ⟨RX1, "loseTitle", "()V"⟩
abbrev cX1_pledgeTo : ByteArray := prog_3_method_9_code
def yX1_pledgeTo : MethodName := ⟨RX1, "pledgeTo", "(I)V"⟩
abbrev cX1_endPledge : ByteArray := prog_3_method_10_code
def yX1_endPledge : MethodName := ⟨RX1, "endPledge", "()V"⟩
abbrev cX1_loan : ByteArray := prog_3_method_11_code
def yX1_loan : MethodName := ⟨RX1, "loan", "()I"⟩
abbrev cX1_redemption : ByteArray := prog_3_method_12_code
def yX1_redemption : MethodName := ⟨RX1, "redemption", "()I"⟩
abbrev cX1_drift : ByteArray := prog_3_method_13_code
def yX1_drift : MethodName := ⟨RX1, "drift", "(I)V"⟩
abbrev cX1_vineyardAfter : ByteArray := prog_3_method_14_code
def yX1_vineyardAfter : MethodName := ⟨RX1, "vineyardAfter", "(I)I"⟩
abbrev cX1_windByTrying : ByteArray := prog_3_method_15_code
def yX1_windByTrying : MethodName := ⟨RX1, "windByTrying", "(I)I"⟩
abbrev cX1_windByDistance : ByteArray := prog_3_method_16_code
def yX1_windByDistance : MethodName := ⟨RX1, "windByDistance", "(I)I"⟩
abbrev cX1_isAheadOf : ByteArray := prog_3_method_17_code
def yX1_isAheadOf : MethodName := ⟨RX1, "isAheadOf", "(LCloudDeeds$Cloud;)Z"⟩
abbrev cX1_tell : ByteArray := prog_3_method_18_code
def yX1_tell : MethodName := ⟨RX1, "tell", "(I)I"⟩
abbrev cX1_writeTo : ByteArray := prog_3_method_19_code
def yX1_writeTo : MethodName := ⟨RX1, "writeTo", "(Ljava/lang/StringBuilder;)V"⟩
def RX2 : String := "CloudDeeds$History"
def TX2 : u_T := fun k => match k with
  | 0 => ("CloudDeeds$History", "kept", "[LCloudDeeds$Office;", true)
  | 1 => ("CloudDeeds$History", "next", "I", false)
  | _ => ("CloudDeeds$History", "count", "I", false)
def tyX2 : Nat → FieldType := fun k => match k with
  | 0 => .array (.object "CloudDeeds$Office")
  | 1 => .int
  | _ => .int
theorem nmX2 : ∀ a, a < 3 → ∀ b, b < 3 → a ≠ b → (TX2 a).2.1 ≠ (TX2 b).2.1 := by decide +kernel
theorem tyX2_ok : ∀ k, k < 3 → parseFieldDescriptor (TX2 k).2.2.1 = some (tyX2 k) := by decide +kernel
abbrev cX2_init : ByteArray := prog_4_method_1_code
def yX2_init : MethodName := ⟨RX2, "<init>", "()V"⟩
abbrev cX2_push : ByteArray := prog_4_method_2_code
def yX2_push : MethodName := ⟨RX2, "push", "(LCloudDeeds$Office;)V"⟩
def RX3 : String := "CloudDeeds$Kind"
def TX3 : u_T := fun k => match k with
  | _ => ("", "", "", false)
def tyX3 : Nat → FieldType := fun k => match k with
  | _ => .int
theorem nmX3 : ∀ a, a < 0 → ∀ b, b < 0 → a ≠ b → (TX3 a).2.1 ≠ (TX3 b).2.1 := by decide +kernel
theorem tyX3_ok : ∀ k, k < 0 → parseFieldDescriptor (TX3 k).2.2.1 = some (tyX3 k) := by decide +kernel
def RX4 : String := "CloudDeeds$Office"
def TX4 : u_T := fun k => match k with
  | 0 => ("CloudDeeds$Office", "clouds", "[LCloudDeeds$Cloud;", true)
  | 1 => ("CloudDeeds$Office", "cloudCount", "I", false)
  | 2 => ("CloudDeeds$Office", "vineyardOwners", "[I", true)
  | 3 => ("CloudDeeds$Office", "purses", "[I", true)
  | 4 => ("CloudDeeds$Office", "records", "LCloudDeeds$Records;", true)
  | 5 => ("CloudDeeds$Office", "dawns", "I", false)
  | 6 => ("CloudDeeds$Office", "lapsed", "I", false)
  | 7 => ("CloudDeeds$Office", "claimed", "I", false)
  | 8 => ("CloudDeeds$Office", "foreclosed", "I", false)
  | 9 => ("CloudDeeds$Office", "gone", "I", false)
  | 10 => ("CloudDeeds$Office", "officeCoins", "I", false)
  | 11 => ("CloudDeeds$Office", "dawnCoins", "I", false)
  | 12 => ("CloudDeeds$Office", "refusal", "I", false)
  | _ => ("CloudDeeds$Office", "refusalDetail", "I", false)
def tyX4 : Nat → FieldType := fun k => match k with
  | 0 => .array (.object "CloudDeeds$Cloud")
  | 1 => .int
  | 2 => .array .int
  | 3 => .array .int
  | 4 => .object "CloudDeeds$Records"
  | 5 => .int
  | 6 => .int
  | 7 => .int
  | 8 => .int
  | 9 => .int
  | 10 => .int
  | 11 => .int
  | 12 => .int
  | _ => .int
theorem nmX4 : ∀ a, a < 14 → ∀ b, b < 14 → a ≠ b → (TX4 a).2.1 ≠ (TX4 b).2.1 := by decide +kernel
theorem tyX4_ok : ∀ k, k < 14 → parseFieldDescriptor (TX4 k).2.2.1 = some (tyX4 k) := by decide +kernel
abbrev cX4_init : ByteArray := prog_6_method_1_code
def yX4_init : MethodName := ⟨RX4, "<init>", "()V"⟩
abbrev cX4_copyFrom : ByteArray := prog_6_method_2_code
def yX4_copyFrom : MethodName := ⟨RX4, "copyFrom", "(LCloudDeeds$Office;)V"⟩
abbrev cX4_carryOut : ByteArray := prog_6_method_3_code
def yX4_carryOut : MethodName := ⟨RX4, "carryOut", "(LCloudDeeds$Kind;III)I"⟩
abbrev cX4_refuse : ByteArray := prog_6_method_4_code
def yX4_refuse : MethodName := ⟨RX4, "refuse", "(II)I"⟩
abbrev cX4_letCome : ByteArray := prog_6_method_5_code
def yX4_letCome : MethodName := ⟨RX4, "letCome", "(III)I"⟩
abbrev cX4_giveVineyard : ByteArray := prog_6_method_6_code
def yX4_giveVineyard : MethodName := ⟨RX4, "giveVineyard", "(II)I"⟩
abbrev cX4_giveTitle : ByteArray := prog_6_method_7_code
def yX4_giveTitle : MethodName := ⟨RX4, "giveTitle", "(II)I"⟩
abbrev cX4_sellTo : ByteArray := prog_6_method_8_code
def yX4_sellTo : MethodName := ⟨RX4, "sellTo", "(III)I"⟩
abbrev cX4_pledgeTo : ByteArray := prog_6_method_9_code
def yX4_pledgeTo : MethodName := ⟨RX4, "pledgeTo", "(II)I"⟩
abbrev cX4_checkDeal : ByteArray := prog_6_method_10_code
def yX4_checkDeal : MethodName := ⟨RX4, "checkDeal", "(LCloudDeeds$Cloud;III)I"⟩
abbrev cX4_redeemPledge : ByteArray := prog_6_method_11_code
def yX4_redeemPledge : MethodName := ⟨RX4, "redeemPledge", "(I)I"⟩
abbrev cX4_blow : ByteArray := prog_6_method_12_code
def yX4_blow : MethodName := ⟨RX4, "blow", "(I)I"⟩
abbrev cX4_hailDown : ByteArray := prog_6_method_13_code
def yX4_hailDown : MethodName := ⟨RX4, "hailDown", "(I)I"⟩
abbrev cX4_removeGone : ByteArray := prog_6_method_14_code
def yX4_removeGone : MethodName := ⟨RX4, "removeGone", "()V"⟩
abbrev cX4_letDawn : ByteArray := prog_6_method_15_code
def yX4_letDawn : MethodName := ⟨RX4, "letDawn", "()I"⟩
abbrev cX4_lapseTitles : ByteArray := prog_6_method_16_code
def yX4_lapseTitles : MethodName := ⟨RX4, "lapseTitles", "()V"⟩
abbrev cX4_claimClouds : ByteArray := prog_6_method_17_code
def yX4_claimClouds : MethodName := ⟨RX4, "claimClouds", "()I"⟩
abbrev cX4_payForClouds : ByteArray := prog_6_method_18_code
def yX4_payForClouds : MethodName := ⟨RX4, "payForClouds", "()V"⟩
abbrev cX4_pay : ByteArray := prog_6_method_19_code
def yX4_pay : MethodName := ⟨RX4, "pay", "(III)V"⟩
abbrev cX4_hasCloud : ByteArray := prog_6_method_20_code
def yX4_hasCloud : MethodName := ⟨RX4, "hasCloud", "(I)Z"⟩
abbrev cX4_purseOf : ByteArray := prog_6_method_21_code
def yX4_purseOf : MethodName := ⟨RX4, "purseOf", "(I)I"⟩
abbrev cX4_ownerBelow : ByteArray := prog_6_method_22_code
def yX4_ownerBelow : MethodName := ⟨RX4, "ownerBelow", "(LCloudDeeds$Cloud;)I"⟩
abbrev cX4_cloudsCounted : ByteArray := prog_6_method_23_code
def yX4_cloudsCounted : MethodName := ⟨RX4, "cloudsCounted", "(I)I"⟩
abbrev cX4_cloudsLeftOver : ByteArray := prog_6_method_24_code
def yX4_cloudsLeftOver : MethodName := ⟨RX4, "cloudsLeftOver", "(I)I"⟩
abbrev cX4_areCloudsAlike : ByteArray := prog_6_method_25_code
def yX4_areCloudsAlike : MethodName := ⟨RX4, "areCloudsAlike", "()Z"⟩
abbrev cX4_areWindsAlike : ByteArray := prog_6_method_26_code
def yX4_areWindsAlike : MethodName := ⟨RX4, "areWindsAlike", "()Z"⟩
abbrev cX4_coinsCounted : ByteArray := prog_6_method_27_code
def yX4_coinsCounted : MethodName := ⟨RX4, "coinsCounted", "()I"⟩
abbrev cX4_coinsByPayments : ByteArray := prog_6_method_28_code
def yX4_coinsByPayments : MethodName := ⟨RX4, "coinsByPayments", "()I"⟩
abbrev cX4_sizes : ByteArray := prog_6_method_29_code
def yX4_sizes : MethodName := ⟨RX4, "sizes", "()I"⟩
abbrev cX4_titledClouds : ByteArray := prog_6_method_30_code
def yX4_titledClouds : MethodName := ⟨RX4, "titledClouds", "()I"⟩
abbrev cX4_pledgedClouds : ByteArray := prog_6_method_31_code
def yX4_pledgedClouds : MethodName := ⟨RX4, "pledgedClouds", "()I"⟩
abbrev cX4_ownedVineyards : ByteArray := prog_6_method_32_code
def yX4_ownedVineyards : MethodName := ⟨RX4, "ownedVineyards", "()I"⟩
abbrev cX4_vineyardsBelongingTo : ByteArray := prog_6_method_33_code
def yX4_vineyardsBelongingTo : MethodName := ⟨RX4, "vineyardsBelongingTo", "(I)I"⟩
abbrev cX4_tellOfOwner : ByteArray := prog_6_method_34_code
def yX4_tellOfOwner : MethodName := ⟨RX4, "tellOfOwner", "(II)I"⟩
abbrev cX4_tellOfVineyard : ByteArray := prog_6_method_35_code
def yX4_tellOfVineyard : MethodName := ⟨RX4, "tellOfVineyard", "(II)I"⟩
abbrev cX4_tellAccount : ByteArray := prog_6_method_36_code
def yX4_tellAccount : MethodName := ⟨RX4, "tellAccount", "(I)I"⟩
abbrev cX4_cloudAtPlace : ByteArray := prog_6_method_37_code
def yX4_cloudAtPlace : MethodName := ⟨RX4, "cloudAtPlace", "(I)I"⟩
abbrev cX4_cloudsAheadOf : ByteArray := prog_6_method_38_code
def yX4_cloudsAheadOf : MethodName := ⟨RX4, "cloudsAheadOf", "(I)I"⟩
abbrev cX4_isCloudAhead : ByteArray := prog_6_method_39_code
def yX4_isCloudAhead : MethodName := ⟨RX4, "isCloudAhead", "(II)Z"⟩
abbrev cX4_ownerAtPlace : ByteArray := prog_6_method_40_code
def yX4_ownerAtPlace : MethodName := ⟨RX4, "ownerAtPlace", "(I)I"⟩
abbrev cX4_ownersAheadOf : ByteArray := prog_6_method_41_code
def yX4_ownersAheadOf : MethodName := ⟨RX4, "ownersAheadOf", "(I)I"⟩
abbrev cX4_isOwnerAhead : ByteArray := prog_6_method_42_code
def yX4_isOwnerAhead : MethodName := ⟨RX4, "isOwnerAhead", "(II)Z"⟩
def RX5 : String := "CloudDeeds$Order"
def TX5 : u_T := fun k => match k with
  | 0 => ("CloudDeeds$Order", "kind", "LCloudDeeds$Kind;", false)
  | 1 => ("CloudDeeds$Order", "numbers", "[I", true)
  | _ => ("CloudDeeds$Order", "count", "I", false)
def tyX5 : Nat → FieldType := fun k => match k with
  | 0 => .object "CloudDeeds$Kind"
  | 1 => .array .int
  | _ => .int
theorem nmX5 : ∀ a, a < 3 → ∀ b, b < 3 → a ≠ b → (TX5 a).2.1 ≠ (TX5 b).2.1 := by decide +kernel
theorem tyX5_ok : ∀ k, k < 3 → parseFieldDescriptor (TX5 k).2.2.1 = some (tyX5 k) := by decide +kernel
abbrev cX5_init : ByteArray := prog_7_method_1_code
def yX5_init : MethodName := ⟨RX5, "<init>", "()V"⟩
def RX6 : String := "CloudDeeds$Reasons"
def TX6 : u_T := fun k => match k with
  | 0 => ("CloudDeeds$Reasons", "reason", "I", false)
  | 1 => ("CloudDeeds$Reasons", "detail", "I", false)
  | 2 => ("CloudDeeds$Reasons", "behind", "I", false)
  | _ => ("CloudDeeds$Reasons", "behindDetail", "I", false)
def tyX6 : Nat → FieldType := fun k => match k with
  | 0 => .int
  | 1 => .int
  | 2 => .int
  | _ => .int
theorem nmX6 : ∀ a, a < 4 → ∀ b, b < 4 → a ≠ b → (TX6 a).2.1 ≠ (TX6 b).2.1 := by decide +kernel
theorem tyX6_ok : ∀ k, k < 4 → parseFieldDescriptor (TX6 k).2.2.1 = some (tyX6 k) := by decide +kernel
abbrev cX6_init : ByteArray := prog_8_method_1_code
def yX6_init : MethodName := ⟨RX6, "<init>", "()V"⟩
abbrev cX6_keep : ByteArray := prog_8_method_2_code
def yX6_keep : MethodName := ⟨RX6, "keep", "(LCloudDeeds$Office;)V"⟩
def RX7 : String := "CloudDeeds$Records"
def TX7 : u_T := fun k => match k with
  | 0 => ("CloudDeeds$Records", "owners", "[I", true)
  | 1 => ("CloudDeeds$Records", "cloudCounts", "[I", true)
  | _ => ("CloudDeeds$Records", "count", "I", false)
def tyX7 : Nat → FieldType := fun k => match k with
  | 0 => .array .int
  | 1 => .array .int
  | _ => .int
theorem nmX7 : ∀ a, a < 3 → ∀ b, b < 3 → a ≠ b → (TX7 a).2.1 ≠ (TX7 b).2.1 := by decide +kernel
theorem tyX7_ok : ∀ k, k < 3 → parseFieldDescriptor (TX7 k).2.2.1 = some (tyX7 k) := by decide +kernel
abbrev cX7_init : ByteArray := prog_9_method_1_code
def yX7_init : MethodName := ⟨RX7, "<init>", "()V"⟩
abbrev cX7_copyFrom : ByteArray := prog_9_method_2_code
def yX7_copyFrom : MethodName := ⟨RX7, "copyFrom", "(LCloudDeeds$Records;)V"⟩
abbrev cX7_record : ByteArray := prog_9_method_3_code
def yX7_record : MethodName := ⟨RX7, "record", "([LCloudDeeds$Cloud;I)V"⟩
abbrev cX7_makeRoom : ByteArray := prog_9_method_4_code
def yX7_makeRoom : MethodName := ⟨RX7, "makeRoom", "()V"⟩
abbrev cX7_hasDawn : ByteArray := prog_9_method_5_code
def yX7_hasDawn : MethodName := ⟨RX7, "hasDawn", "(I)Z"⟩
abbrev cX7_cloudsAt : ByteArray := prog_9_method_6_code
def yX7_cloudsAt : MethodName := ⟨RX7, "cloudsAt", "(I)I"⟩
abbrev cX7_ownerAt : ByteArray := prog_9_method_7_code
def yX7_ownerAt : MethodName := ⟨RX7, "ownerAt", "(II)I"⟩
abbrev cX7_writeTo : ByteArray := prog_9_method_8_code
def yX7_writeTo : MethodName := ⟨RX7, "writeTo", "(Ljava/lang/StringBuilder;I)V"⟩
def RX8 : String := "CloudDeeds$Tape"
def TX8 : u_T := fun k => match k with
  | 0 => ("CloudDeeds$Tape", "signs", "[C", true)
  | 1 => ("CloudDeeds$Tape", "length", "I", false)
  | 2 => ("CloudDeeds$Tape", "place", "I", false)
  | 3 => ("CloudDeeds$Tape", "orders", "[LCloudDeeds$Order;", true)
  | _ => ("CloudDeeds$Tape", "orderCount", "I", false)
def tyX8 : Nat → FieldType := fun k => match k with
  | 0 => .array .char
  | 1 => .int
  | 2 => .int
  | 3 => .array (.object "CloudDeeds$Order")
  | _ => .int
theorem nmX8 : ∀ a, a < 5 → ∀ b, b < 5 → a ≠ b → (TX8 a).2.1 ≠ (TX8 b).2.1 := by decide +kernel
theorem tyX8_ok : ∀ k, k < 5 → parseFieldDescriptor (TX8 k).2.2.1 = some (tyX8 k) := by decide +kernel
abbrev cX8_init : ByteArray := prog_10_method_1_code
def yX8_init : MethodName := ⟨RX8, "<init>", "()V"⟩
def RX9 : String := "CloudDeeds"
def TX9 : u_T := fun k => match k with
  | 0 => ("CloudDeeds", "office", "LCloudDeeds$Office;", true)
  | 1 => ("CloudDeeds", "before", "LCloudDeeds$Office;", true)
  | 2 => ("CloudDeeds", "imagined", "LCloudDeeds$Office;", true)
  | 3 => ("CloudDeeds", "saved", "LCloudDeeds$Office;", true)
  | 4 => ("CloudDeeds", "isSaved", "Z", false)
  | 5 => ("CloudDeeds", "history", "LCloudDeeds$History;", true)
  | 6 => ("CloudDeeds", "reasons", "LCloudDeeds$Reasons;", true)
  | 7 => ("CloudDeeds", "tape", "LCloudDeeds$Tape;", true)
  | 8 => ("CloudDeeds", "keptFault", "I", false)
  | _ => ("CloudDeeds", "text", "Ljava/lang/StringBuilder;", true)
def tyX9 : Nat → FieldType := fun k => match k with
  | 0 => .object "CloudDeeds$Office"
  | 1 => .object "CloudDeeds$Office"
  | 2 => .object "CloudDeeds$Office"
  | 3 => .object "CloudDeeds$Office"
  | 4 => .boolean
  | 5 => .object "CloudDeeds$History"
  | 6 => .object "CloudDeeds$Reasons"
  | 7 => .object "CloudDeeds$Tape"
  | 8 => .int
  | _ => .object "java/lang/StringBuilder"
theorem nmX9 : ∀ a, a < 10 → ∀ b, b < 10 → a ≠ b → (TX9 a).2.1 ≠ (TX9 b).2.1 := by decide +kernel
theorem tyX9_ok : ∀ k, k < 10 → parseFieldDescriptor (TX9 k).2.2.1 = some (tyX9 k) := by decide +kernel
abbrev cX9_init : ByteArray := prog_1_method_1_code
def yX9_init : MethodName := ⟨RX9, "<init>", "()V"⟩
abbrev cX9_cloud : ByteArray := prog_1_method_2_code
def yX9_cloud : MethodName := ⟨RX9, "cloud", "(III)I"⟩
abbrev cX9_vine : ByteArray := prog_1_method_3_code
def yX9_vine : MethodName := ⟨RX9, "vine", "(II)I"⟩
abbrev cX9_title : ByteArray := prog_1_method_4_code
def yX9_title : MethodName := ⟨RX9, "title", "(II)I"⟩
abbrev cX9_sell : ByteArray := prog_1_method_5_code
def yX9_sell : MethodName := ⟨RX9, "sell", "(III)I"⟩
abbrev cX9_pledge : ByteArray := prog_1_method_6_code
def yX9_pledge : MethodName := ⟨RX9, "pledge", "(II)I"⟩
abbrev cX9_redeem : ByteArray := prog_1_method_7_code
def yX9_redeem : MethodName := ⟨RX9, "redeem", "(I)I"⟩
abbrev cX9_wind : ByteArray := prog_1_method_8_code
def yX9_wind : MethodName := ⟨RX9, "wind", "(I)I"⟩
abbrev cX9_hail : ByteArray := prog_1_method_9_code
def yX9_hail : MethodName := ⟨RX9, "hail", "(I)I"⟩
abbrev cX9_dawn : ByteArray := prog_1_method_10_code
def yX9_dawn : MethodName := ⟨RX9, "dawn", "()I"⟩
abbrev cX9_cloudOf : ByteArray := prog_1_method_11_code
def yX9_cloudOf : MethodName := ⟨RX9, "cloudOf", "(II)I"⟩
abbrev cX9_ownerOf : ByteArray := prog_1_method_12_code
def yX9_ownerOf : MethodName := ⟨RX9, "ownerOf", "(II)I"⟩
abbrev cX9_vineyardOf : ByteArray := prog_1_method_13_code
def yX9_vineyardOf : MethodName := ⟨RX9, "vineyardOf", "(II)I"⟩
abbrev cX9_clouds : ByteArray := prog_1_method_14_code
def yX9_clouds : MethodName := ⟨RX9, "clouds", "(I)I"⟩
abbrev cX9_cloudsAgain : ByteArray := prog_1_method_15_code
def yX9_cloudsAgain : MethodName := ⟨RX9, "cloudsAgain", "(I)I"⟩
abbrev cX9_windTo : ByteArray := prog_1_method_16_code
def yX9_windTo : MethodName := ⟨RX9, "windTo", "(II)I"⟩
abbrev cX9_windToAgain : ByteArray := prog_1_method_17_code
def yX9_windToAgain : MethodName := ⟨RX9, "windToAgain", "(II)I"⟩
abbrev cX9_would : ByteArray := prog_1_method_18_code
def yX9_would : MethodName := ⟨RX9, "would", "(II)I"⟩
abbrev cX9_bestWind : ByteArray := prog_1_method_19_code
def yX9_bestWind : MethodName := ⟨RX9, "bestWind", "(I)I"⟩
abbrev cX9_recorded : ByteArray := prog_1_method_20_code
def yX9_recorded : MethodName := ⟨RX9, "recorded", "(II)I"⟩
abbrev cX9_coins : ByteArray := prog_1_method_21_code
def yX9_coins : MethodName := ⟨RX9, "coins", "()I"⟩
abbrev cX9_coinsAgain : ByteArray := prog_1_method_22_code
def yX9_coinsAgain : MethodName := ⟨RX9, "coinsAgain", "()I"⟩
abbrev cX9_greatest : ByteArray := prog_1_method_23_code
def yX9_greatest : MethodName := ⟨RX9, "greatest", "(I)I"⟩
abbrev cX9_ranked : ByteArray := prog_1_method_24_code
def yX9_ranked : MethodName := ⟨RX9, "ranked", "(I)I"⟩
abbrev cX9_reason : ByteArray := prog_1_method_28_code
def yX9_reason : MethodName := ⟨RX9, "reason", "(ZZ)I"⟩
abbrev cX9_line : ByteArray := prog_1_method_29_code
def yX9_line : MethodName := ⟨RX9, "line", "(I)I"⟩
abbrev cX9_dawnLine : ByteArray := prog_1_method_30_code
def yX9_dawnLine : MethodName := ⟨RX9, "dawnLine", "(I)I"⟩
abbrev cX9_character : ByteArray := prog_1_method_31_code
def yX9_character : MethodName := ⟨RX9, "character", "(I)C"⟩
abbrev cX9_meanSize : ByteArray := prog_1_method_32_code
def yX9_meanSize : MethodName := ⟨RX9, "meanSize", "()D"⟩
abbrev cX9_titledShare : ByteArray := prog_1_method_33_code
def yX9_titledShare : MethodName := ⟨RX9, "titledShare", "()F"⟩
abbrev cX9_account : ByteArray := prog_1_method_34_code
def yX9_account : MethodName := ⟨RX9, "account", "(I)I"⟩
abbrev cX9_isBalanced : ByteArray := prog_1_method_35_code
def yX9_isBalanced : MethodName := ⟨RX9, "isBalanced", "()Z"⟩
abbrev cX9_change : ByteArray := prog_1_method_39_code
def yX9_change : MethodName := ⟨RX9, "change", "(LCloudDeeds$Kind;III)I"⟩
abbrev cX9_cloudsImagined : ByteArray := prog_1_method_40_code
def yX9_cloudsImagined : MethodName := ⟨RX9, "cloudsImagined", "(II)I"⟩
abbrev cX9_demandOwner : ByteArray := prog_1_method_41_code
def yX9_demandOwner : MethodName := ⟨RX9, "demandOwner", "(I)V"⟩
abbrev cX9_isWithin : ByteArray := prog_1_method_42_code
def yX9_isWithin : MethodName := ⟨RX9, "isWithin", "(II)Z"⟩
abbrev cX9_isOwner : ByteArray := prog_1_method_43_code
def yX9_isOwner : MethodName := ⟨RX9, "isOwner", "(I)Z"⟩
abbrev cX9_isVineyard : ByteArray := prog_1_method_44_code
def yX9_isVineyard : MethodName := ⟨RX9, "isVineyard", "(I)Z"⟩
abbrev cX9_copyNumbers : ByteArray := prog_1_method_45_code
def yX9_copyNumbers : MethodName := ⟨RX9, "copyNumbers", "([I[I)V"⟩
def RX10 : String := "CloudDeedsModel"
def TX10 : u_T := fun k => match k with
  | _ => ("", "", "", false)
def tyX10 : Nat → FieldType := fun k => match k with
  | _ => .int
theorem nmX10 : ∀ a, a < 0 → ∀ b, b < 0 → a ≠ b → (TX10 a).2.1 ≠ (TX10 b).2.1 := by decide +kernel
theorem tyX10_ok : ∀ k, k < 0 → parseFieldDescriptor (TX10 k).2.2.1 = some (tyX10 k) := by decide +kernel
def RJx145de : String := "java/io/Serializable"
def TJx145de : u_T := fun k => match k with
  | _ => ("", "", "", false)
def tyJx145de : Nat → FieldType := fun k => match k with
  | _ => .int
theorem nmJx145de : ∀ a, a < 0 → ∀ b, b < 0 → a ≠ b → (TJx145de a).2.1 ≠ (TJx145de b).2.1 := by decide +kernel
theorem tyJx145de_ok : ∀ k, k < 0 → parseFieldDescriptor (TJx145de k).2.2.1 = some (tyJx145de k) := by decide +kernel
def RJ5 : String := "java/lang/AbstractStringBuilder"
def TJ5 : u_T := fun k => match k with
  | _ => ("", "", "", false)
def tyJ5 : Nat → FieldType := fun k => match k with
  | _ => .int
theorem nmJ5 : ∀ a, a < 0 → ∀ b, b < 0 → a ≠ b → (TJ5 a).2.1 ≠ (TJ5 b).2.1 := by decide +kernel
theorem tyJ5_ok : ∀ k, k < 0 → parseFieldDescriptor (TJ5 k).2.2.1 = some (tyJ5 k) := by decide +kernel
abbrev cJ5_init_d00df : ByteArray := prog_14_method_2_code
def yJ5_init_d00df : MethodName := ⟨RJ5, "<init>", "(I)V"⟩
abbrev cJ5_length_8abf5 : ByteArray := prog_14_method_6_code
def yJ5_length_8abf5 : MethodName := ⟨RJ5, "length", "()I"⟩
abbrev cJ5_ensureCapacityInternal_d00df : ByteArray := prog_14_method_9_code
def yJ5_ensureCapacityInternal_d00df : MethodName := ⟨RJ5, "ensureCapacityInternal", "(I)V"⟩
abbrev cJ5_newCapacity_0f7a4 : ByteArray := prog_14_method_10_code
def yJ5_newCapacity_0f7a4 : MethodName := ⟨RJ5, "newCapacity", "(I)I"⟩
abbrev cJ5_inflate_da8c8 : ByteArray := prog_14_method_11_code
def yJ5_inflate_da8c8 : MethodName := ⟨RJ5, "inflate", "()V"⟩
abbrev cJ5_setLength_d00df : ByteArray := prog_14_method_13_code
def yJ5_setLength_d00df : MethodName := ⟨RJ5, "setLength", "(I)V"⟩
abbrev cJ5_charAt_5068e : ByteArray := prog_14_method_14_code
def yJ5_charAt_5068e : MethodName := ⟨RJ5, "charAt", "(I)C"⟩
abbrev cJ5_append_cf1ce : ByteArray := prog_14_method_22_code
def yJ5_append_cf1ce : MethodName := ⟨RJ5, "append", "(Ljava/lang/String;)Ljava/lang/AbstractStringBuilder;"⟩
abbrev cJ5_appendNull_278bc : ByteArray := prog_14_method_26_code
def yJ5_appendNull_278bc : MethodName := ⟨RJ5, "appendNull", "()Ljava/lang/AbstractStringBuilder;"⟩
abbrev cJ5_append_3fe6f : ByteArray := prog_14_method_31_code
def yJ5_append_3fe6f : MethodName := ⟨RJ5, "append", "(C)Ljava/lang/AbstractStringBuilder;"⟩
abbrev cJ5_append_c97b9 : ByteArray := prog_14_method_32_code
def yJ5_append_c97b9 : MethodName := ⟨RJ5, "append", "(I)Ljava/lang/AbstractStringBuilder;"⟩
abbrev cJ5_getValue_6d5f1 : ByteArray := prog_14_method_64_code
def yJ5_getValue_6d5f1 : MethodName := ⟨RJ5, "getValue", "()[B"⟩
abbrev cJ5_isLatin1_aae02 : ByteArray := prog_14_method_68_code
def yJ5_isLatin1_aae02 : MethodName := ⟨RJ5, "isLatin1", "()Z"⟩
abbrev cJ5_inflateIfNeededFor_a7421 : ByteArray := prog_14_method_71_code
def yJ5_inflateIfNeededFor_a7421 : MethodName := ⟨RJ5, "inflateIfNeededFor", "(Ljava/lang/String;)V"⟩
abbrev cJ5_putStringAt_47b60 : ByteArray := prog_14_method_73_code
def yJ5_putStringAt_47b60 : MethodName := ⟨RJ5, "putStringAt", "(ILjava/lang/String;)V"⟩
def RJx2cfe8 : String := "java/lang/Appendable"
def TJx2cfe8 : u_T := fun k => match k with
  | _ => ("", "", "", false)
def tyJx2cfe8 : Nat → FieldType := fun k => match k with
  | _ => .int
theorem nmJx2cfe8 : ∀ a, a < 0 → ∀ b, b < 0 → a ≠ b → (TJx2cfe8 a).2.1 ≠ (TJx2cfe8 b).2.1 := by decide +kernel
theorem tyJx2cfe8_ok : ∀ k, k < 0 → parseFieldDescriptor (TJx2cfe8 k).2.2.1 = some (tyJx2cfe8 k) := by decide +kernel
def RJx9f9b0 : String := "java/lang/CharSequence"
def TJx9f9b0 : u_T := fun k => match k with
  | _ => ("", "", "", false)
def tyJx9f9b0 : Nat → FieldType := fun k => match k with
  | _ => .int
theorem nmJx9f9b0 : ∀ a, a < 0 → ∀ b, b < 0 → a ≠ b → (TJx9f9b0 a).2.1 ≠ (TJx9f9b0 b).2.1 := by decide +kernel
theorem tyJx9f9b0_ok : ∀ k, k < 0 → parseFieldDescriptor (TJx9f9b0 k).2.2.1 = some (tyJx9f9b0 k) := by decide +kernel
def RJx8e188 : String := "java/lang/Cloneable"
def TJx8e188 : u_T := fun k => match k with
  | _ => ("", "", "", false)
def tyJx8e188 : Nat → FieldType := fun k => match k with
  | _ => .int
theorem nmJx8e188 : ∀ a, a < 0 → ∀ b, b < 0 → a ≠ b → (TJx8e188 a).2.1 ≠ (TJx8e188 b).2.1 := by decide +kernel
theorem tyJx8e188_ok : ∀ k, k < 0 → parseFieldDescriptor (TJx8e188 k).2.2.1 = some (tyJx8e188 k) := by decide +kernel
def RJxb160c : String := "java/lang/Comparable"
def TJxb160c : u_T := fun k => match k with
  | _ => ("", "", "", false)
def tyJxb160c : Nat → FieldType := fun k => match k with
  | _ => .int
theorem nmJxb160c : ∀ a, a < 0 → ∀ b, b < 0 → a ≠ b → (TJxb160c a).2.1 ≠ (TJxb160c b).2.1 := by decide +kernel
theorem tyJxb160c_ok : ∀ k, k < 0 → parseFieldDescriptor (TJxb160c k).2.2.1 = some (tyJxb160c k) := by decide +kernel
def RJx29ce0 : String := "java/lang/Enum"
def TJx29ce0 : u_T := fun k => match k with
  | _ => ("", "", "", false)
def tyJx29ce0 : Nat → FieldType := fun k => match k with
  | _ => .int
theorem nmJx29ce0 : ∀ a, a < 0 → ∀ b, b < 0 → a ≠ b → (TJx29ce0 a).2.1 ≠ (TJx29ce0 b).2.1 := by decide +kernel
theorem tyJx29ce0_ok : ∀ k, k < 0 → parseFieldDescriptor (TJx29ce0 k).2.2.1 = some (tyJx29ce0 k) := by decide +kernel
abbrev cJx29ce0_ordinal_8abf5 : ByteArray := prog_20_method_2_code
def yJx29ce0_ordinal_8abf5 : MethodName := ⟨RJx29ce0, "ordinal", "()I"⟩
def RJ6 : String := "java/lang/Integer"
def TJ6 : u_T := fun k => match k with
  | _ => ("", "", "", false)
def tyJ6 : Nat → FieldType := fun k => match k with
  | _ => .int
theorem nmJ6 : ∀ a, a < 0 → ∀ b, b < 0 → a ≠ b → (TJ6 a).2.1 ≠ (TJ6 b).2.1 := by decide +kernel
theorem tyJ6_ok : ∀ k, k < 0 → parseFieldDescriptor (TJ6 k).2.2.1 = some (tyJ6 k) := by decide +kernel
abbrev cJ6_getChars_ba4f3 : ByteArray := prog_24_method_12_code
def yJ6_getChars_ba4f3 : MethodName := ⟨RJ6, "getChars", "(II[B)I"⟩
abbrev cJ6_stringSize_0f7a4 : ByteArray := prog_24_method_13_code
def yJ6_stringSize_0f7a4 : MethodName := ⟨RJ6, "stringSize", "(I)I"⟩
def RJ9 : String := "java/lang/Math"
def TJ9 : u_T := fun k => match k with
  | _ => ("", "", "", false)
def tyJ9 : Nat → FieldType := fun k => match k with
  | _ => .int
theorem nmJ9 : ∀ a, a < 0 → ∀ b, b < 0 → a ≠ b → (TJ9 a).2.1 ≠ (TJ9 b).2.1 := by decide +kernel
theorem tyJ9_ok : ∀ k, k < 0 → parseFieldDescriptor (TJ9 k).2.2.1 = some (tyJ9 k) := by decide +kernel
abbrev cJ9_floorMod_7cf53 : ByteArray := prog_25_method_50_code
def yJ9_floorMod_7cf53 : MethodName := ⟨RJ9, "floorMod", "(II)I"⟩
abbrev cJ9_abs_0f7a4 : ByteArray := prog_25_method_59_code
def yJ9_abs_0f7a4 : MethodName := ⟨RJ9, "abs", "(I)I"⟩
abbrev cJ9_max_7cf53 : ByteArray := prog_25_method_65_code
def yJ9_max_7cf53 : MethodName := ⟨RJ9, "max", "(II)I"⟩
abbrev cJ9_min_7cf53 : ByteArray := prog_25_method_69_code
def yJ9_min_7cf53 : MethodName := ⟨RJ9, "min", "(II)I"⟩
def RJxd2413 : String := "java/lang/Number"
def TJxd2413 : u_T := fun k => match k with
  | _ => ("", "", "", false)
def tyJxd2413 : Nat → FieldType := fun k => match k with
  | _ => .int
theorem nmJxd2413 : ∀ a, a < 0 → ∀ b, b < 0 → a ≠ b → (TJxd2413 a).2.1 ≠ (TJxd2413 b).2.1 := by decide +kernel
theorem tyJxd2413_ok : ∀ k, k < 0 → parseFieldDescriptor (TJxd2413 k).2.2.1 = some (tyJxd2413 k) := by decide +kernel
def RJ0 : String := "java/lang/String"
def TJ0 : u_T := fun k => match k with
  | 0 => ("java/lang/String", "value", "[B", true)
  | 1 => ("java/lang/String", "coder", "B", true)
  | 2 => ("java/lang/String", "hash", "I", false)
  | _ => ("java/lang/String", "hashIsZero", "Z", false)
def tyJ0 : Nat → FieldType := fun k => match k with
  | 0 => .array .byte
  | 1 => .byte
  | 2 => .int
  | _ => .boolean
theorem nmJ0 : ∀ a, a < 4 → ∀ b, b < 4 → a ≠ b → (TJ0 a).2.1 ≠ (TJ0 b).2.1 := by decide +kernel
theorem tyJ0_ok : ∀ k, k < 4 → parseFieldDescriptor (TJ0 k).2.2.1 = some (tyJ0 k) := by decide +kernel
abbrev cJ0_init_81219 : ByteArray := prog_28_method_53_code
def yJ0_init_81219 : MethodName := ⟨RJ0, "<init>", "(Ljava/lang/StringBuilder;)V"⟩
abbrev cJ0_length_8abf5 : ByteArray := prog_28_method_54_code
def yJ0_length_8abf5 : MethodName := ⟨RJ0, "length", "()I"⟩
abbrev cJ0_charAt_5068e : ByteArray := prog_28_method_56_code
def yJ0_charAt_5068e : MethodName := ⟨RJ0, "charAt", "(I)C"⟩
abbrev cJ0_getBytes_840e7 : ByteArray := prog_28_method_147_code
def yJ0_getBytes_840e7 : MethodName := ⟨RJ0, "getBytes", "([BIB)V"⟩
abbrev cJ0_init_db425 : ByteArray := prog_28_method_150_code
def yJ0_init_db425 : MethodName := ⟨RJ0, "<init>", "(Ljava/lang/AbstractStringBuilder;Ljava/lang/Void;)V"⟩
abbrev cJ0_coder_7d493 : ByteArray := prog_28_method_152_code
def yJ0_coder_7d493 : MethodName := ⟨RJ0, "coder", "()B"⟩
abbrev cJ0_isLatin1_aae02 : ByteArray := prog_28_method_154_code
def yJ0_isLatin1_aae02 : MethodName := ⟨RJ0, "isLatin1", "()Z"⟩
abbrev cJ0_checkIndex_df160 : ByteArray := prog_28_method_155_code
def yJ0_checkIndex_df160 : MethodName := ⟨RJ0, "checkIndex", "(II)V"⟩
abbrev cJ0_checkBoundsOffCount_cabcc : ByteArray := prog_28_method_157_code
def yJ0_checkBoundsOffCount_cabcc : MethodName := ⟨RJ0, "checkBoundsOffCount", "(III)I"⟩
abbrev cJ0_checkBoundsBeginEnd_23922 : ByteArray := prog_28_method_158_code
def yJ0_checkBoundsBeginEnd_23922 : MethodName := ⟨RJ0, "checkBoundsBeginEnd", "(III)V"⟩
def RJ4 : String := "java/lang/StringBuilder"
def TJ4 : u_T := fun k => match k with
  | 0 => ("java/lang/AbstractStringBuilder", "value", "[B", false)
  | 1 => ("java/lang/AbstractStringBuilder", "coder", "B", false)
  | 2 => ("java/lang/AbstractStringBuilder", "maybeLatin1", "Z", false)
  | _ => ("java/lang/AbstractStringBuilder", "count", "I", false)
def tyJ4 : Nat → FieldType := fun k => match k with
  | 0 => .array .byte
  | 1 => .byte
  | 2 => .boolean
  | _ => .int
theorem nmJ4 : ∀ a, a < 4 → ∀ b, b < 4 → a ≠ b → (TJ4 a).2.1 ≠ (TJ4 b).2.1 := by decide +kernel
theorem tyJ4_ok : ∀ k, k < 4 → parseFieldDescriptor (TJ4 k).2.2.1 = some (tyJ4 k) := by decide +kernel
abbrev cJ4_init_da8c8 : ByteArray := prog_29_method_1_code
def yJ4_init_da8c8 : MethodName := ⟨RJ4, "<init>", "()V"⟩
abbrev cJ4_append_15ec4 : ByteArray := prog_29_method_7_code
def yJ4_append_15ec4 : MethodName := ⟨RJ4, "append", "(Ljava/lang/String;)Ljava/lang/StringBuilder;"⟩
abbrev cJ4_append_cf468 : ByteArray := prog_29_method_14_code
def yJ4_append_cf468 : MethodName := ⟨RJ4, "append", "(C)Ljava/lang/StringBuilder;"⟩
abbrev cJ4_append_bf812 : ByteArray := prog_29_method_15_code
def yJ4_append_bf812 : MethodName := ⟨RJ4, "append", "(I)Ljava/lang/StringBuilder;"⟩
abbrev cJ4_toString_0e30d : ByteArray := prog_29_method_42_code
def yJ4_toString_0e30d : MethodName := ⟨RJ4, "toString", "()Ljava/lang/String;"⟩
abbrev cJ4_charAt_5068e : ByteArray := prog_29_method_88_code
def yJ4_charAt_5068e : MethodName := ⟨RJ4, "charAt", "(I)C"⟩
abbrev cJ4_setLength_d00df : ByteArray := prog_29_method_89_code
def yJ4_setLength_d00df : MethodName := ⟨RJ4, "setLength", "(I)V"⟩
abbrev cJ4_length_8abf5 : ByteArray := prog_29_method_93_code
def yJ4_length_8abf5 : MethodName := ⟨RJ4, "length", "()I"⟩
def RJ1 : String := "java/lang/StringLatin1"
def TJ1 : u_T := fun k => match k with
  | _ => ("", "", "", false)
def tyJ1 : Nat → FieldType := fun k => match k with
  | _ => .int
theorem nmJ1 : ∀ a, a < 0 → ∀ b, b < 0 → a ≠ b → (TJ1 a).2.1 ≠ (TJ1 b).2.1 := by decide +kernel
theorem tyJ1_ok : ∀ k, k < 0 → parseFieldDescriptor (TJ1 k).2.2.1 = some (tyJ1 k) := by decide +kernel
abbrev cJ1_charAt_3b067 : ByteArray := prog_30_method_2_code
def yJ1_charAt_3b067 : MethodName := ⟨RJ1, "charAt", "([BI)C"⟩
abbrev cJ1_canEncode_fc78d : ByteArray := prog_30_method_3_code
def yJ1_canEncode_fc78d : MethodName := ⟨RJ1, "canEncode", "(C)Z"⟩
abbrev cJ1_fillNull_b72d1 : ByteArray := prog_30_method_48_code
def yJ1_fillNull_b72d1 : MethodName := ⟨RJ1, "fillNull", "([BII)V"⟩
abbrev cJ1_inflate_0e8fd : ByteArray := prog_30_method_50_code
def yJ1_inflate_0e8fd : MethodName := ⟨RJ1, "inflate", "([BI[BII)V"⟩
def RJ2 : String := "java/lang/StringUTF16"
def TJ2 : u_T := fun k => match k with
  | _ => ("", "", "", false)
def tyJ2 : Nat → FieldType := fun k => match k with
  | _ => .int
theorem nmJ2 : ∀ a, a < 0 → ∀ b, b < 0 → a ≠ b → (TJ2 a).2.1 ≠ (TJ2 b).2.1 := by decide +kernel
theorem tyJ2_ok : ∀ k, k < 0 → parseFieldDescriptor (TJ2 k).2.2.1 = some (tyJ2 k) := by decide +kernel
abbrev cJ2_newBytesFor_77867 : ByteArray := prog_31_method_2_code
def yJ2_newBytesFor_77867 : MethodName := ⟨RJ2, "newBytesFor", "(I)[B"⟩
abbrev cJ2_newBytesLength_0f7a4 : ByteArray := prog_31_method_3_code
def yJ2_newBytesLength_0f7a4 : MethodName := ⟨RJ2, "newBytesLength", "(I)I"⟩
abbrev cJ2_putChar_b72d1 : ByteArray := prog_31_method_4_code
def yJ2_putChar_b72d1 : MethodName := ⟨RJ2, "putChar", "([BII)V"⟩
abbrev cJ2_getChar_3b067 : ByteArray := prog_31_method_5_code
def yJ2_getChar_3b067 : MethodName := ⟨RJ2, "getChar", "([BI)C"⟩
abbrev cJ2_length_9d52b : ByteArray := prog_31_method_6_code
def yJ2_length_9d52b : MethodName := ⟨RJ2, "length", "([B)I"⟩
abbrev cJ2_coderFromArrayLen_85cad : ByteArray := prog_31_method_15_code
def yJ2_coderFromArrayLen_85cad : MethodName := ⟨RJ2, "coderFromArrayLen", "([BI)B"⟩
abbrev cJ2_compress_39247 : ByteArray := prog_31_method_17_code
def yJ2_compress_39247 : MethodName := ⟨RJ2, "compress", "([BII)[B"⟩
abbrev cJ2_compress_5af95 : ByteArray := prog_31_method_22_code
def yJ2_compress_5af95 : MethodName := ⟨RJ2, "compress", "([BI[BII)I"⟩
abbrev cJ2_fillNull_b72d1 : ByteArray := prog_31_method_70_code
def yJ2_fillNull_b72d1 : MethodName := ⟨RJ2, "fillNull", "([BII)V"⟩
abbrev cJ2_putCharSB_b72d1 : ByteArray := prog_31_method_71_code
def yJ2_putCharSB_b72d1 : MethodName := ⟨RJ2, "putCharSB", "([BII)V"⟩
abbrev cJ2_getChars_46870 : ByteArray := prog_31_method_77_code
def yJ2_getChars_46870 : MethodName := ⟨RJ2, "getChars", "(III[B)I"⟩
abbrev cJ2_putCharsAt_cd4e5 : ByteArray := prog_31_method_81_code
def yJ2_putCharsAt_cd4e5 : MethodName := ⟨RJ2, "putCharsAt", "([BICCCC)I"⟩
abbrev cJ2_charAt_3b067 : ByteArray := prog_31_method_83_code
def yJ2_charAt_3b067 : MethodName := ⟨RJ2, "charAt", "([BI)C"⟩
abbrev cJ2_inflate_0e8fd : ByteArray := prog_31_method_86_code
def yJ2_inflate_0e8fd : MethodName := ⟨RJ2, "inflate", "([BI[BII)V"⟩
abbrev cJ2_getChars_ba4f3 : ByteArray := prog_31_method_89_code
def yJ2_getChars_ba4f3 : MethodName := ⟨RJ2, "getChars", "(II[B)I"⟩
abbrev cJ2_checkIndex_2214a : ByteArray := prog_31_method_91_code
def yJ2_checkIndex_2214a : MethodName := ⟨RJ2, "checkIndex", "(I[B)V"⟩
abbrev cJ2_checkBoundsBeginEnd_d044e : ByteArray := prog_31_method_93_code
def yJ2_checkBoundsBeginEnd_d044e : MethodName := ⟨RJ2, "checkBoundsBeginEnd", "(II[B)V"⟩
abbrev cJ2_checkBoundsOffCount_d044e : ByteArray := prog_31_method_94_code
def yJ2_checkBoundsOffCount_d044e : MethodName := ⟨RJ2, "checkBoundsOffCount", "(II[B)V"⟩
def RJ10 : String := "java/lang/System"
def TJ10 : u_T := fun k => match k with
  | _ => ("", "", "", false)
def tyJ10 : Nat → FieldType := fun k => match k with
  | _ => .int
theorem nmJ10 : ∀ a, a < 0 → ∀ b, b < 0 → a ≠ b → (TJ10 a).2.1 ≠ (TJ10 b).2.1 := by decide +kernel
theorem tyJ10_ok : ∀ k, k < 0 → parseFieldDescriptor (TJ10 k).2.2.1 = some (tyJ10 k) := by decide +kernel
def RJxfd54e : String := "java/lang/constant/Constable"
def TJxfd54e : u_T := fun k => match k with
  | _ => ("", "", "", false)
def tyJxfd54e : Nat → FieldType := fun k => match k with
  | _ => .int
theorem nmJxfd54e : ∀ a, a < 0 → ∀ b, b < 0 → a ≠ b → (TJxfd54e a).2.1 ≠ (TJxfd54e b).2.1 := by decide +kernel
theorem tyJxfd54e_ok : ∀ k, k < 0 → parseFieldDescriptor (TJxfd54e k).2.2.1 = some (tyJxfd54e k) := by decide +kernel
def RJx3cf43 : String := "java/lang/constant/ConstantDesc"
def TJx3cf43 : u_T := fun k => match k with
  | _ => ("", "", "", false)
def tyJx3cf43 : Nat → FieldType := fun k => match k with
  | _ => .int
theorem nmJx3cf43 : ∀ a, a < 0 → ∀ b, b < 0 → a ≠ b → (TJx3cf43 a).2.1 ≠ (TJx3cf43 b).2.1 := by decide +kernel
theorem tyJx3cf43_ok : ∀ k, k < 0 → parseFieldDescriptor (TJx3cf43 k).2.2.1 = some (tyJx3cf43 k) := by decide +kernel
def RJ7 : String := "java/util/Arrays"
def TJ7 : u_T := fun k => match k with
  | _ => ("", "", "", false)
def tyJ7 : Nat → FieldType := fun k => match k with
  | _ => .int
theorem nmJ7 : ∀ a, a < 0 → ∀ b, b < 0 → a ≠ b → (TJ7 a).2.1 ≠ (TJ7 b).2.1 := by decide +kernel
theorem tyJ7_ok : ∀ k, k < 0 → parseFieldDescriptor (TJ7 k).2.2.1 = some (tyJ7 k) := by decide +kernel
abbrev cJ7_rangeCheck_23922 : ByteArray := prog_37_method_30_code
def yJ7_rangeCheck_23922 : MethodName := ⟨RJ7, "rangeCheck", "(III)V"⟩
abbrev cJ7_fill_eb02e : ByteArray := prog_37_method_110_code
def yJ7_fill_eb02e : MethodName := ⟨RJ7, "fill", "([BIIB)V"⟩
abbrev cJ7_copyOf_9075b : ByteArray := prog_37_method_121_code
def yJ7_copyOf_9075b : MethodName := ⟨RJ7, "copyOf", "([BI)[B"⟩
abbrev cJ7_checkLength_df160 : ByteArray := prog_37_method_131_code
def yJ7_checkLength_df160 : MethodName := ⟨RJ7, "checkLength", "(II)V"⟩
abbrev cJ7_copyOfRange_39247 : ByteArray := prog_37_method_132_code
def yJ7_copyOfRange_39247 : MethodName := ⟨RJ7, "copyOfRange", "([BII)[B"⟩
abbrev cJ7_copyOfRangeByte_39247 : ByteArray := prog_37_method_133_code
def yJ7_copyOfRangeByte_39247 : MethodName := ⟨RJ7, "copyOfRangeByte", "([BII)[B"⟩
def RJ8 : String := "jdk/internal/util/ArraysSupport"
def TJ8 : u_T := fun k => match k with
  | _ => ("", "", "", false)
def tyJ8 : Nat → FieldType := fun k => match k with
  | _ => .int
theorem nmJ8 : ∀ a, a < 0 → ∀ b, b < 0 → a ≠ b → (TJ8 a).2.1 ≠ (TJ8 b).2.1 := by decide +kernel
theorem tyJ8_ok : ∀ k, k < 0 → parseFieldDescriptor (TJ8 k).2.2.1 = some (tyJ8 k) := by decide +kernel
abbrev cJ8_newLength_cabcc : ByteArray := prog_39_method_27_code
def yJ8_newLength_cabcc : MethodName := ⟨RJ8, "newLength", "(III)I"⟩
abbrev cJ8_hugeLength_7cf53 : ByteArray := prog_39_method_28_code
def yJ8_hugeLength_7cf53 : MethodName := ⟨RJ8, "hugeLength", "(II)I"⟩
def RJ3 : String := "jdk/internal/util/Preconditions"
def TJ3 : u_T := fun k => match k with
  | _ => ("", "", "", false)
def tyJ3 : Nat → FieldType := fun k => match k with
  | _ => .int
theorem nmJ3 : ∀ a, a < 0 → ∀ b, b < 0 → a ≠ b → (TJ3 a).2.1 ≠ (TJ3 b).2.1 := by decide +kernel
theorem tyJ3_ok : ∀ k, k < 0 → parseFieldDescriptor (TJ3 k).2.2.1 = some (tyJ3 k) := by decide +kernel
abbrev cJ3_checkIndex_8e157 : ByteArray := prog_40_method_11_code
def yJ3_checkIndex_8e157 : MethodName := ⟨RJ3, "checkIndex", "(IILjava/util/function/BiFunction;)I"⟩
abbrev cJ3_checkFromToIndex_8c36e : ByteArray := prog_40_method_12_code
def yJ3_checkFromToIndex_8c36e : MethodName := ⟨RJ3, "checkFromToIndex", "(IIILjava/util/function/BiFunction;)I"⟩
abbrev cJ3_checkFromIndexSize_8c36e : ByteArray := prog_40_method_13_code
def yJ3_checkFromIndexSize_8c36e : MethodName := ⟨RJ3, "checkFromIndexSize", "(IIILjava/util/function/BiFunction;)I"⟩
def RL : String := "CloudDeedsLaw"
abbrev cL_cell : ByteArray := method_2_code
def yL_cell : MethodName := ⟨RL, "cell", "([II)I"⟩
abbrev cL_some : ByteArray := method_3_code
def yL_some : MethodName := ⟨RL, "some", "([III)I"⟩
abbrev cL_told : ByteArray := method_4_code
def yL_told : MethodName := ⟨RL, "told", "(LCloudDeeds;)I"⟩
abbrev cL_cloud : ByteArray := method_5_code
def yL_cloud : MethodName := ⟨RL, "cloud", "(LCloudDeeds;III)I"⟩
abbrev cL_vine : ByteArray := method_6_code
def yL_vine : MethodName := ⟨RL, "vine", "(LCloudDeeds;II)I"⟩
abbrev cL_title : ByteArray := method_7_code
def yL_title : MethodName := ⟨RL, "title", "(LCloudDeeds;II)I"⟩
abbrev cL_sell : ByteArray := method_8_code
def yL_sell : MethodName := ⟨RL, "sell", "(LCloudDeeds;III)I"⟩
abbrev cL_pledge : ByteArray := method_9_code
def yL_pledge : MethodName := ⟨RL, "pledge", "(LCloudDeeds;II)I"⟩
abbrev cL_redeem : ByteArray := method_10_code
def yL_redeem : MethodName := ⟨RL, "redeem", "(LCloudDeeds;I)I"⟩
abbrev cL_wind : ByteArray := method_11_code
def yL_wind : MethodName := ⟨RL, "wind", "(LCloudDeeds;I)I"⟩
abbrev cL_hail : ByteArray := method_12_code
def yL_hail : MethodName := ⟨RL, "hail", "(LCloudDeeds;I)I"⟩
abbrev cL_recorded : ByteArray := method_13_code
def yL_recorded : MethodName := ⟨RL, "recorded", "(LCloudDeeds;II)I"⟩
abbrev cL_dawnLine : ByteArray := method_14_code
def yL_dawnLine : MethodName := ⟨RL, "dawnLine", "(LCloudDeeds;I)I"⟩
abbrev cL_greatest : ByteArray := method_15_code
def yL_greatest : MethodName := ⟨RL, "greatest", "(LCloudDeeds;I)I"⟩
abbrev cL_ranked : ByteArray := method_16_code
def yL_ranked : MethodName := ⟨RL, "ranked", "(LCloudDeeds;I)I"⟩
abbrev cL_build : ByteArray := method_17_code
def yL_build : MethodName := ⟨RL, "build", "(LCloudDeeds;[I)V"⟩
abbrev cL_acts : ByteArray := method_18_code
def yL_acts : MethodName := ⟨RL, "acts", "(LCloudDeeds;[II)V"⟩
abbrev cL_ownerBy : ByteArray := method_19_code
def yL_ownerBy : MethodName := ⟨RL, "ownerBy", "(LCloudDeeds;II)I"⟩
abbrev cL_isLine : ByteArray := method_20_code
def yL_isLine : MethodName := ⟨RL, "isLine", "(LCloudDeeds;ILjava/lang/String;)Z"⟩
abbrev cL_law : ByteArray := code
def yL_law : MethodName := ⟨RL, "law", "([I)Z"⟩
/-- the classes of the worlds (two places are filled up by a class that stands there already) -/
abbrev vwCl : List vw_C := [(RJ0, TJ0, 4), (RJ4, TJ4, 4), (RJ0, TJ0, 4), (RJ0, TJ0, 4), (RX1, TX1, 7), (RX2, TX2, 3), (RX4, TX4, 14), (RX5, TX5, 3), (RX6, TX6, 4), (RX7, TX7, 3), (RX8, TX8, 5), (RX9, TX9, 10)]

/-! ===== BEGIN printed: names, fields, word lists, decode rows ===== -/
def RX0 : String := "OpenFloors$Floor"
def TX0 : u_T := fun k => match k with
  | 0 => ("OpenFloors$Floor", "number", "I", true)
  | 1 => ("OpenFloors$Floor", "seats", "I", true)
  | 2 => ("OpenFloors$Floor", "cost", "I", false)
  | 3 => ("OpenFloors$Floor", "open", "Z", false)
  | 4 => ("OpenFloors$Floor", "warmth", "I", false)
  | 5 => ("OpenFloors$Floor", "air", "I", false)
  | _ => ("OpenFloors$Floor", "keys", "[I", true)
def tyX0 : Nat → FieldType := fun k => match k with
  | 0 => .int
  | 1 => .int
  | 2 => .int
  | 3 => .boolean
  | 4 => .int
  | 5 => .int
  | _ => .array .int
abbrev wsX00 : List Cond := u_ws RX0 TX0 7
theorem nmX0 : ∀ a, a < 7 → ∀ b, b < 7 → a ≠ b → (TX0 a).2.1 ≠ (TX0 b).2.1 := by decide +kernel
theorem tyX0_ok : ∀ k, k < 7 → parseFieldDescriptor (TX0 k).2.2.1 = some (tyX0 k) := by decide +kernel
abbrev cX0_init : ByteArray := prog_2_method_1_code
def yX0_init : MethodName := ⟨RX0, "<init>", "(III)V"⟩
abbrev cX0_bit : ByteArray := prog_2_method_2_code
def yX0_bit : MethodName := ⟨RX0, "bit", "()I"⟩
abbrev cX0_isPartOf : ByteArray := prog_2_method_3_code
def yX0_isPartOf : MethodName := ⟨RX0, "isPartOf", "(I)Z"⟩
abbrev cX0_distanceTo : ByteArray := prog_2_method_4_code
def yX0_distanceTo : MethodName := ⟨RX0, "distanceTo", "(LOpenFloors$Floor;)I"⟩
abbrev cX0_forgetKeys : ByteArray := prog_2_method_5_code
def yX0_forgetKeys : MethodName := ⟨RX0, "forgetKeys", "()V"⟩
abbrev cX0_keyFor : ByteArray := prog_2_method_6_code
def yX0_keyFor : MethodName := ⟨RX0, "keyFor", "(I)I"⟩
abbrev cX0_offerKey : ByteArray := prog_2_method_7_code
def yX0_offerKey : MethodName := ⟨RX0, "offerKey", "(II)V"⟩
abbrev cX0_followWarmth : ByteArray := prog_2_method_8_code
def yX0_followWarmth : MethodName := ⟨RX0, "followWarmth", "(I)I"⟩
abbrev cX0_followAir : ByteArray := prog_2_method_9_code
def yX0_followAir : MethodName := ⟨RX0, "followAir", "(I)V"⟩
abbrev cX0_discomfortOfOnePerson : ByteArray := prog_2_method_10_code
def yX0_discomfortOfOnePerson : MethodName := ⟨RX0, "discomfortOfOnePerson", "()I"⟩
def RX1 : String := "OpenFloors$Person"
def TX1 : u_T := fun k => match k with
  | 0 => ("OpenFloors$Person", "number", "I", true)
  | 1 => ("OpenFloors$Person", "team", "I", true)
  | 2 => ("OpenFloors$Person", "standing", "I", false)
  | 3 => ("OpenFloors$Person", "wanted", "LOpenFloors$Floor;", false)
  | 4 => ("OpenFloors$Person", "seat", "LOpenFloors$Floor;", false)
  | 5 => ("OpenFloors$Person", "in", "Z", false)
  | _ => ("OpenFloors$Person", "came", "Z", false)
def tyX1 : Nat → FieldType := fun k => match k with
  | 0 => .int
  | 1 => .int
  | 2 => .int
  | 3 => .object "OpenFloors$Floor"
  | 4 => .object "OpenFloors$Floor"
  | 5 => .boolean
  | _ => .boolean
abbrev wsX10 : List Cond := u_ws RX1 TX1 7
theorem nmX1 : ∀ a, a < 7 → ∀ b, b < 7 → a ≠ b → (TX1 a).2.1 ≠ (TX1 b).2.1 := by decide +kernel
theorem tyX1_ok : ∀ k, k < 7 → parseFieldDescriptor (TX1 k).2.2.1 = some (tyX1 k) := by decide +kernel
abbrev cX1_init : ByteArray := prog_3_method_1_code
def yX1_init : MethodName := ⟨RX1, "<init>", "(II)V"⟩
abbrev cX1_isNoShow : ByteArray := prog_3_method_2_code
def yX1_isNoShow : MethodName := ⟨RX1, "isNoShow", "()Z"⟩
abbrev cX1_judge : ByteArray := prog_3_method_3_code
def yX1_judge : MethodName := ⟨RX1, "judge", "()V"⟩
abbrev cX1_goHome : ByteArray := prog_3_method_4_code
def yX1_goHome : MethodName := ⟨RX1, "goHome", "()V"⟩
def RX2 : String := "OpenFloors"
def TX2 : u_T := fun k => match k with
  | 0 => ("OpenFloors", "floors", "Ljava/util/ArrayList;", true)
  | 1 => ("OpenFloors", "people", "Ljava/util/ArrayList;", true)
  | 2 => ("OpenFloors", "booked", "Ljava/util/ArrayList;", true)
  | 3 => ("OpenFloors", "day", "I", false)
  | 4 => ("OpenFloors", "noShows", "I", false)
  | 5 => ("OpenFloors", "energy", "J", false)
  | 6 => ("OpenFloors", "discomfort", "J", false)
  | _ => ("OpenFloors", "cleaning", "J", false)
def tyX2 : Nat → FieldType := fun k => match k with
  | 0 => .object "java/util/ArrayList"
  | 1 => .object "java/util/ArrayList"
  | 2 => .object "java/util/ArrayList"
  | 3 => .int
  | 4 => .int
  | 5 => .long
  | 6 => .long
  | _ => .long
abbrev wsX20 : List Cond := u_ws RX2 TX2 8
theorem nmX2 : ∀ a, a < 8 → ∀ b, b < 8 → a ≠ b → (TX2 a).2.1 ≠ (TX2 b).2.1 := by decide +kernel
theorem tyX2_ok : ∀ k, k < 8 → parseFieldDescriptor (TX2 k).2.2.1 = some (tyX2 k) := by decide +kernel
abbrev cX2_init : ByteArray := prog_1_method_1_code
def yX2_init : MethodName := ⟨RX2, "<init>", "()V"⟩
abbrev cX2_addFloor : ByteArray := prog_1_method_2_code
def yX2_addFloor : MethodName := ⟨RX2, "addFloor", "(II)I"⟩
abbrev cX2_setCost : ByteArray := prog_1_method_3_code
def yX2_setCost : MethodName := ⟨RX2, "setCost", "(II)I"⟩
abbrev cX2_addPerson : ByteArray := prog_1_method_4_code
def yX2_addPerson : MethodName := ⟨RX2, "addPerson", "(I)I"⟩
abbrev cX2_standing : ByteArray := prog_1_method_5_code
def yX2_standing : MethodName := ⟨RX2, "standing", "(I)I"⟩
abbrev cX2_book : ByteArray := prog_1_method_6_code
def yX2_book : MethodName := ⟨RX2, "book", "(II)I"⟩
abbrev cX2_cancel : ByteArray := prog_1_method_7_code
def yX2_cancel : MethodName := ⟨RX2, "cancel", "(I)I"⟩
abbrev cX2_bookings : ByteArray := prog_1_method_8_code
def yX2_bookings : MethodName := ⟨RX2, "bookings", "()I"⟩
abbrev cX2_bookingAt : ByteArray := prog_1_method_9_code
def yX2_bookingAt : MethodName := ⟨RX2, "bookingAt", "(I)I"⟩
abbrev cX2_plan : ByteArray := prog_1_method_10_code
def yX2_plan : MethodName := ⟨RX2, "plan", "()I"⟩
abbrev cX2_planByTrying : ByteArray := prog_1_method_11_code
def yX2_planByTrying : MethodName := ⟨RX2, "planByTrying", "()I"⟩
abbrev cX2_planLoss : ByteArray := prog_1_method_12_code
def yX2_planLoss : MethodName := ⟨RX2, "planLoss", "()I"⟩
abbrev cX2_lossOf : ByteArray := prog_1_method_13_code
def yX2_lossOf : MethodName := ⟨RX2, "lossOf", "(I)I"⟩
abbrev cX2_nextDay : ByteArray := prog_1_method_14_code
def yX2_nextDay : MethodName := ⟨RX2, "nextDay", "()I"⟩
abbrev cX2_day : ByteArray := prog_1_method_15_code
def yX2_day : MethodName := ⟨RX2, "day", "()I"⟩
abbrev cX2_comeIn : ByteArray := prog_1_method_16_code
def yX2_comeIn : MethodName := ⟨RX2, "comeIn", "(I)I"⟩
abbrev cX2_leave : ByteArray := prog_1_method_17_code
def yX2_leave : MethodName := ⟨RX2, "leave", "(I)I"⟩
abbrev cX2_seatOf : ByteArray := prog_1_method_18_code
def yX2_seatOf : MethodName := ⟨RX2, "seatOf", "(I)I"⟩
abbrev cX2_isIn : ByteArray := prog_1_method_19_code
def yX2_isIn : MethodName := ⟨RX2, "isIn", "(I)Z"⟩
abbrev cX2_isOpen : ByteArray := prog_1_method_20_code
def yX2_isOpen : MethodName := ⟨RX2, "isOpen", "(I)Z"⟩
abbrev cX2_seated : ByteArray := prog_1_method_21_code
def yX2_seated : MethodName := ⟨RX2, "seated", "(II)I"⟩
abbrev cX2_pass : ByteArray := prog_1_method_22_code
def yX2_pass : MethodName := ⟨RX2, "pass", "(I)I"⟩
abbrev cX2_warmth : ByteArray := prog_1_method_23_code
def yX2_warmth : MethodName := ⟨RX2, "warmth", "(I)I"⟩
abbrev cX2_air : ByteArray := prog_1_method_24_code
def yX2_air : MethodName := ⟨RX2, "air", "(I)I"⟩
abbrev cX2_energy : ByteArray := prog_1_method_25_code
def yX2_energy : MethodName := ⟨RX2, "energy", "()J"⟩
abbrev cX2_discomfort : ByteArray := prog_1_method_26_code
def yX2_discomfort : MethodName := ⟨RX2, "discomfort", "()J"⟩
abbrev cX2_cleaning : ByteArray := prog_1_method_27_code
def yX2_cleaning : MethodName := ⟨RX2, "cleaning", "()J"⟩
abbrev cX2_noShows : ByteArray := prog_1_method_28_code
def yX2_noShows : MethodName := ⟨RX2, "noShows", "()I"⟩
abbrev cX2_meanStanding : ByteArray := prog_1_method_29_code
def yX2_meanStanding : MethodName := ⟨RX2, "meanStanding", "()D"⟩
abbrev cX2_givenShare : ByteArray := prog_1_method_30_code
def yX2_givenShare : MethodName := ⟨RX2, "givenShare", "()F"⟩
abbrev cX2_isSound : ByteArray := prog_1_method_31_code
def yX2_isSound : MethodName := ⟨RX2, "isSound", "()Z"⟩
abbrev cX2_existingFloor : ByteArray := prog_1_method_32_code
def yX2_existingFloor : MethodName := ⟨RX2, "existingFloor", "(I)LOpenFloors$Floor;"⟩
abbrev cX2_existingPerson : ByteArray := prog_1_method_33_code
def yX2_existingPerson : MethodName := ⟨RX2, "existingPerson", "(I)LOpenFloors$Person;"⟩
abbrev cX2_checkCost : ByteArray := prog_1_method_34_code
def yX2_checkCost : MethodName := ⟨RX2, "checkCost", "(I)V"⟩
abbrev cX2_checkTeam : ByteArray := prog_1_method_35_code
def yX2_checkTeam : MethodName := ⟨RX2, "checkTeam", "(I)V"⟩
abbrev cX2_removeBooking : ByteArray := prog_1_method_36_code
def yX2_removeBooking : MethodName := ⟨RX2, "removeBooking", "(LOpenFloors$Person;)V"⟩
abbrev cX2_allFloors : ByteArray := prog_1_method_37_code
def yX2_allFloors : MethodName := ⟨RX2, "allFloors", "()I"⟩
abbrev cX2_seatsOfSet : ByteArray := prog_1_method_38_code
def yX2_seatsOfSet : MethodName := ⟨RX2, "seatsOfSet", "(I)I"⟩
abbrev cX2_fits : ByteArray := prog_1_method_39_code
def yX2_fits : MethodName := ⟨RX2, "fits", "(I)Z"⟩
abbrev cX2_lossOfSet : ByteArray := prog_1_method_40_code
def yX2_lossOfSet : MethodName := ⟨RX2, "lossOfSet", "(I)I"⟩
abbrev cX2_distanceToSet : ByteArray := prog_1_method_41_code
def yX2_distanceToSet : MethodName := ⟨RX2, "distanceToSet", "(LOpenFloors$Floor;I)I"⟩
abbrev cX2_findPlanKey : ByteArray := prog_1_method_42_code
def yX2_findPlanKey : MethodName := ⟨RX2, "findPlanKey", "()I"⟩
abbrev cX2_findKeysUpTo : ByteArray := prog_1_method_43_code
def yX2_findKeysUpTo : MethodName := ⟨RX2, "findKeysUpTo", "(LOpenFloors$Floor;I)V"⟩
abbrev cX2_addFloorToSetsOf : ByteArray := prog_1_method_44_code
def yX2_addFloorToSetsOf : MethodName := ⟨RX2, "addFloorToSetsOf", "(LOpenFloors$Floor;LOpenFloors$Floor;I)V"⟩
abbrev cX2_lossBetween : ByteArray := prog_1_method_45_code
def yX2_lossBetween : MethodName := ⟨RX2, "lossBetween", "(II)I"⟩
abbrev cX2_countNoShows : ByteArray := prog_1_method_46_code
def yX2_countNoShows : MethodName := ⟨RX2, "countNoShows", "()I"⟩
abbrev cX2_judgePeople : ByteArray := prog_1_method_47_code
def yX2_judgePeople : MethodName := ⟨RX2, "judgePeople", "()V"⟩
abbrev cX2_cleanOpenFloors : ByteArray := prog_1_method_48_code
def yX2_cleanOpenFloors : MethodName := ⟨RX2, "cleanOpenFloors", "()V"⟩
abbrev cX2_sendPeopleHome : ByteArray := prog_1_method_49_code
def yX2_sendPeopleHome : MethodName := ⟨RX2, "sendPeopleHome", "()V"⟩
abbrev cX2_openFloorsOf : ByteArray := prog_1_method_50_code
def yX2_openFloorsOf : MethodName := ⟨RX2, "openFloorsOf", "(I)V"⟩
abbrev cX2_giveSeats : ByteArray := prog_1_method_51_code
def yX2_giveSeats : MethodName := ⟨RX2, "giveSeats", "()V"⟩
abbrev cX2_giveSeat : ByteArray := prog_1_method_52_code
def yX2_giveSeat : MethodName := ⟨RX2, "giveSeat", "(LOpenFloors$Person;)V"⟩
abbrev cX2_suitsBetter : ByteArray := prog_1_method_53_code
def yX2_suitsBetter : MethodName := ⟨RX2, "suitsBetter", "(LOpenFloors$Person;LOpenFloors$Floor;LOpenFloors$Floor;)Z"⟩
abbrev cX2_dropBookings : ByteArray := prog_1_method_54_code
def yX2_dropBookings : MethodName := ⟨RX2, "dropBookings", "()V"⟩
abbrev cX2_passHourOn : ByteArray := prog_1_method_55_code
def yX2_passHourOn : MethodName := ⟨RX2, "passHourOn", "(LOpenFloors$Floor;)I"⟩
abbrev cX2_countPeopleIn : ByteArray := prog_1_method_56_code
def yX2_countPeopleIn : MethodName := ⟨RX2, "countPeopleIn", "()I"⟩
abbrev cX2_countSeatsGivenOn : ByteArray := prog_1_method_57_code
def yX2_countSeatsGivenOn : MethodName := ⟨RX2, "countSeatsGivenOn", "(LOpenFloors$Floor;)I"⟩
abbrev cX2_countTeamOn : ByteArray := prog_1_method_58_code
def yX2_countTeamOn : MethodName := ⟨RX2, "countTeamOn", "(ILOpenFloors$Floor;)I"⟩
abbrev cX2_countPresentOn : ByteArray := prog_1_method_59_code
def yX2_countPresentOn : MethodName := ⟨RX2, "countPresentOn", "(LOpenFloors$Floor;)I"⟩
abbrev cX2_countGuestsOf : ByteArray := prog_1_method_60_code
def yX2_countGuestsOf : MethodName := ⟨RX2, "countGuestsOf", "(LOpenFloors$Floor;)I"⟩
abbrev cX2_peopleAreSound : ByteArray := prog_1_method_61_code
def yX2_peopleAreSound : MethodName := ⟨RX2, "peopleAreSound", "()Z"⟩
abbrev cX2_floorsAreSound : ByteArray := prog_1_method_62_code
def yX2_floorsAreSound : MethodName := ⟨RX2, "floorsAreSound", "()Z"⟩
def RX3 : String := "OpenFloorsModel"
def TX3 : u_T := fun k => match k with
  | 0 => ("OpenFloorsModel", "thrown", "I", false)
  | 1 => ("OpenFloorsModel", "floors", "I", false)
  | 2 => ("OpenFloorsModel", "people", "I", false)
  | 3 => ("OpenFloorsModel", "bookings", "I", false)
  | 4 => ("OpenFloorsModel", "day", "I", false)
  | 5 => ("OpenFloorsModel", "noShows", "I", false)
  | 6 => ("OpenFloorsModel", "seats", "[I", true)
  | 7 => ("OpenFloorsModel", "cost", "[I", true)
  | 8 => ("OpenFloorsModel", "warmth", "[I", true)
  | 9 => ("OpenFloorsModel", "air", "[I", true)
  | 10 => ("OpenFloorsModel", "isOpen", "[Z", true)
  | 11 => ("OpenFloorsModel", "team", "[I", true)
  | 12 => ("OpenFloorsModel", "standing", "[I", true)
  | 13 => ("OpenFloorsModel", "seat", "[I", true)
  | 14 => ("OpenFloorsModel", "isIn", "[Z", true)
  | 15 => ("OpenFloorsModel", "hasCome", "[Z", true)
  | 16 => ("OpenFloorsModel", "isServed", "[Z", true)
  | 17 => ("OpenFloorsModel", "booker", "[I", true)
  | 18 => ("OpenFloorsModel", "wanted", "[I", true)
  | 19 => ("OpenFloorsModel", "energy", "J", false)
  | 20 => ("OpenFloorsModel", "discomfort", "J", false)
  | _ => ("OpenFloorsModel", "cleaning", "J", false)
def tyX3 : Nat → FieldType := fun k => match k with
  | 0 => .int
  | 1 => .int
  | 2 => .int
  | 3 => .int
  | 4 => .int
  | 5 => .int
  | 6 => .array .int
  | 7 => .array .int
  | 8 => .array .int
  | 9 => .array .int
  | 10 => .array .boolean
  | 11 => .array .int
  | 12 => .array .int
  | 13 => .array .int
  | 14 => .array .boolean
  | 15 => .array .boolean
  | 16 => .array .boolean
  | 17 => .array .int
  | 18 => .array .int
  | 19 => .long
  | 20 => .long
  | _ => .long
abbrev wsX30 : List Cond := u_ws RX3 TX3 22
theorem nmX3 : ∀ a, a < 22 → ∀ b, b < 22 → a ≠ b → (TX3 a).2.1 ≠ (TX3 b).2.1 := by decide +kernel
theorem tyX3_ok : ∀ k, k < 22 → parseFieldDescriptor (TX3 k).2.2.1 = some (tyX3 k) := by decide +kernel
abbrev cX3_init : ByteArray := prog_5_method_1_code
def yX3_init : MethodName := ⟨RX3, "<init>", "()V"⟩
abbrev cX3_thrown : ByteArray := prog_5_method_2_code
def yX3_thrown : MethodName := ⟨RX3, "thrown", "()I"⟩
abbrev cX3_in : ByteArray := prog_5_method_3_code
def yX3_in : MethodName := ⟨RX3, "in", "(III)Z"⟩
abbrev cX3_fails : ByteArray := prog_5_method_4_code
def yX3_fails : MethodName := ⟨RX3, "fails", "(I)I"⟩
abbrev cX3_tells : ByteArray := prog_5_method_5_code
def yX3_tells : MethodName := ⟨RX3, "tells", "(I)I"⟩
abbrev cX3_asks : ByteArray := prog_5_method_6_code
def yX3_asks : MethodName := ⟨RX3, "asks", "(IZ)Z"⟩
abbrev cX3_isFloor : ByteArray := prog_5_method_7_code
def yX3_isFloor : MethodName := ⟨RX3, "isFloor", "(I)Z"⟩
abbrev cX3_isPerson : ByteArray := prog_5_method_8_code
def yX3_isPerson : MethodName := ⟨RX3, "isPerson", "(I)Z"⟩
abbrev cX3_addFloor : ByteArray := prog_5_method_9_code
def yX3_addFloor : MethodName := ⟨RX3, "addFloor", "(II)I"⟩
abbrev cX3_setCost : ByteArray := prog_5_method_10_code
def yX3_setCost : MethodName := ⟨RX3, "setCost", "(II)I"⟩
abbrev cX3_addPerson : ByteArray := prog_5_method_11_code
def yX3_addPerson : MethodName := ⟨RX3, "addPerson", "(I)I"⟩
abbrev cX3_standing : ByteArray := prog_5_method_12_code
def yX3_standing : MethodName := ⟨RX3, "standing", "(I)I"⟩
abbrev cX3_bookingOf : ByteArray := prog_5_method_13_code
def yX3_bookingOf : MethodName := ⟨RX3, "bookingOf", "(I)I"⟩
abbrev cX3_seatsIn : ByteArray := prog_5_method_14_code
def yX3_seatsIn : MethodName := ⟨RX3, "seatsIn", "(I)I"⟩
abbrev cX3_book : ByteArray := prog_5_method_15_code
def yX3_book : MethodName := ⟨RX3, "book", "(II)I"⟩
abbrev cX3_cancel : ByteArray := prog_5_method_16_code
def yX3_cancel : MethodName := ⟨RX3, "cancel", "(I)I"⟩
abbrev cX3_bookings : ByteArray := prog_5_method_17_code
def yX3_bookings : MethodName := ⟨RX3, "bookings", "()I"⟩
abbrev cX3_bookingAt : ByteArray := prog_5_method_18_code
def yX3_bookingAt : MethodName := ⟨RX3, "bookingAt", "(I)I"⟩
abbrev cX3_apart : ByteArray := prog_5_method_19_code
def yX3_apart : MethodName := ⟨RX3, "apart", "(II)I"⟩
abbrev cX3_fits : ByteArray := prog_5_method_20_code
def yX3_fits : MethodName := ⟨RX3, "fits", "(I)Z"⟩
abbrev cX3_loss : ByteArray := prog_5_method_21_code
def yX3_loss : MethodName := ⟨RX3, "loss", "(I)I"⟩
abbrev cX3_best : ByteArray := prog_5_method_22_code
def yX3_best : MethodName := ⟨RX3, "best", "()I"⟩
abbrev cX3_plan : ByteArray := prog_5_method_23_code
def yX3_plan : MethodName := ⟨RX3, "plan", "()I"⟩
abbrev cX3_planByTrying : ByteArray := prog_5_method_24_code
def yX3_planByTrying : MethodName := ⟨RX3, "planByTrying", "()I"⟩
abbrev cX3_planLoss : ByteArray := prog_5_method_25_code
def yX3_planLoss : MethodName := ⟨RX3, "planLoss", "()I"⟩
abbrev cX3_lossOf : ByteArray := prog_5_method_26_code
def yX3_lossOf : MethodName := ⟨RX3, "lossOf", "(I)I"⟩
abbrev cX3_sitting : ByteArray := prog_5_method_27_code
def yX3_sitting : MethodName := ⟨RX3, "sitting", "(II)I"⟩
abbrev cX3_judges : ByteArray := prog_5_method_28_code
def yX3_judges : MethodName := ⟨RX3, "judges", "()I"⟩
abbrev cX3_cleans : ByteArray := prog_5_method_29_code
def yX3_cleans : MethodName := ⟨RX3, "cleans", "()V"⟩
abbrev cX3_isNearer : ByteArray := prog_5_method_30_code
def yX3_isNearer : MethodName := ⟨RX3, "isNearer", "(III)Z"⟩
abbrev cX3_gives : ByteArray := prog_5_method_31_code
def yX3_gives : MethodName := ⟨RX3, "gives", "(I)V"⟩
abbrev cX3_nextDay : ByteArray := prog_5_method_32_code
def yX3_nextDay : MethodName := ⟨RX3, "nextDay", "()I"⟩
abbrev cX3_day : ByteArray := prog_5_method_33_code
def yX3_day : MethodName := ⟨RX3, "day", "()I"⟩
abbrev cX3_comeIn : ByteArray := prog_5_method_34_code
def yX3_comeIn : MethodName := ⟨RX3, "comeIn", "(I)I"⟩
abbrev cX3_leave : ByteArray := prog_5_method_35_code
def yX3_leave : MethodName := ⟨RX3, "leave", "(I)I"⟩
abbrev cX3_seatOf : ByteArray := prog_5_method_36_code
def yX3_seatOf : MethodName := ⟨RX3, "seatOf", "(I)I"⟩
abbrev cX3_isIn : ByteArray := prog_5_method_37_code
def yX3_isIn : MethodName := ⟨RX3, "isIn", "(I)Z"⟩
abbrev cX3_isOpen : ByteArray := prog_5_method_38_code
def yX3_isOpen : MethodName := ⟨RX3, "isOpen", "(I)Z"⟩
abbrev cX3_seated : ByteArray := prog_5_method_39_code
def yX3_seated : MethodName := ⟨RX3, "seated", "(II)I"⟩
abbrev cX3_inside : ByteArray := prog_5_method_40_code
def yX3_inside : MethodName := ⟨RX3, "inside", "(I)I"⟩
abbrev cX3_hour : ByteArray := prog_5_method_41_code
def yX3_hour : MethodName := ⟨RX3, "hour", "(I)I"⟩
abbrev cX3_pass : ByteArray := prog_5_method_42_code
def yX3_pass : MethodName := ⟨RX3, "pass", "(I)I"⟩
abbrev cX3_warmth : ByteArray := prog_5_method_43_code
def yX3_warmth : MethodName := ⟨RX3, "warmth", "(I)I"⟩
abbrev cX3_air : ByteArray := prog_5_method_44_code
def yX3_air : MethodName := ⟨RX3, "air", "(I)I"⟩
abbrev cX3_tellsLong : ByteArray := prog_5_method_45_code
def yX3_tellsLong : MethodName := ⟨RX3, "tellsLong", "(J)J"⟩
abbrev cX3_energy : ByteArray := prog_5_method_46_code
def yX3_energy : MethodName := ⟨RX3, "energy", "()J"⟩
abbrev cX3_discomfort : ByteArray := prog_5_method_47_code
def yX3_discomfort : MethodName := ⟨RX3, "discomfort", "()J"⟩
abbrev cX3_cleaning : ByteArray := prog_5_method_48_code
def yX3_cleaning : MethodName := ⟨RX3, "cleaning", "()J"⟩
abbrev cX3_noShows : ByteArray := prog_5_method_49_code
def yX3_noShows : MethodName := ⟨RX3, "noShows", "()I"⟩
abbrev cX3_meanStanding : ByteArray := prog_5_method_50_code
def yX3_meanStanding : MethodName := ⟨RX3, "meanStanding", "()D"⟩
abbrev cX3_givenShare : ByteArray := prog_5_method_51_code
def yX3_givenShare : MethodName := ⟨RX3, "givenShare", "()F"⟩
abbrev cX3_isSound : ByteArray := prog_5_method_52_code
def yX3_isSound : MethodName := ⟨RX3, "isSound", "()Z"⟩
def RJx145de : String := "java/io/Serializable"
def TJx145de : u_T := fun k => match k with
  | _ => ("", "", "", false)
def tyJx145de : Nat → FieldType := fun k => match k with
  | _ => .int
abbrev wsJx145de0 : List Cond := u_ws RJx145de TJx145de 0
theorem nmJx145de : ∀ a, a < 0 → ∀ b, b < 0 → a ≠ b → (TJx145de a).2.1 ≠ (TJx145de b).2.1 := by decide +kernel
theorem tyJx145de_ok : ∀ k, k < 0 → parseFieldDescriptor (TJx145de k).2.2.1 = some (tyJx145de k) := by decide +kernel
def RJx00060 : String := "java/lang/ArrayIndexOutOfBoundsException"
def TJx00060 : u_T := fun k => match k with
  | 0 => ("java/lang/Throwable", "backtrace", "Ljava/lang/Object;", false)
  | 1 => ("java/lang/Throwable", "detailMessage", "Ljava/lang/String;", false)
  | 2 => ("java/lang/Throwable", "cause", "Ljava/lang/Throwable;", false)
  | 3 => ("java/lang/Throwable", "stackTrace", "[Ljava/lang/StackTraceElement;", false)
  | 4 => ("java/lang/Throwable", "depth", "I", false)
  | _ => ("java/lang/Throwable", "suppressedExceptions", "Ljava/util/List;", false)
def tyJx00060 : Nat → FieldType := fun k => match k with
  | 0 => .object "java/lang/Object"
  | 1 => .object "java/lang/String"
  | 2 => .object "java/lang/Throwable"
  | 3 => .array (.object "java/lang/StackTraceElement")
  | 4 => .int
  | _ => .object "java/util/List"
abbrev wsJx000600 : List Cond := u_ws RJx00060 TJx00060 6
theorem nmJx00060 : ∀ a, a < 6 → ∀ b, b < 6 → a ≠ b → (TJx00060 a).2.1 ≠ (TJx00060 b).2.1 := by decide +kernel
theorem tyJx00060_ok : ∀ k, k < 6 → parseFieldDescriptor (TJx00060 k).2.2.1 = some (tyJx00060 k) := by decide +kernel
abbrev cJx00060_init_a7421 : ByteArray := prog_8_method_2_code
def yJx00060_init_a7421 : MethodName := ⟨RJx00060, "<init>", "(Ljava/lang/String;)V"⟩
def RJx8e188 : String := "java/lang/Cloneable"
def TJx8e188 : u_T := fun k => match k with
  | _ => ("", "", "", false)
def tyJx8e188 : Nat → FieldType := fun k => match k with
  | _ => .int
abbrev wsJx8e1880 : List Cond := u_ws RJx8e188 TJx8e188 0
theorem nmJx8e188 : ∀ a, a < 0 → ∀ b, b < 0 → a ≠ b → (TJx8e188 a).2.1 ≠ (TJx8e188 b).2.1 := by decide +kernel
theorem tyJx8e188_ok : ∀ k, k < 0 → parseFieldDescriptor (TJx8e188 k).2.2.1 = some (tyJx8e188 k) := by decide +kernel
def RJxab1ab : String := "java/lang/Iterable"
def TJxab1ab : u_T := fun k => match k with
  | _ => ("", "", "", false)
def tyJxab1ab : Nat → FieldType := fun k => match k with
  | _ => .int
abbrev wsJxab1ab0 : List Cond := u_ws RJxab1ab TJxab1ab 0
theorem nmJxab1ab : ∀ a, a < 0 → ∀ b, b < 0 → a ≠ b → (TJxab1ab a).2.1 ≠ (TJxab1ab b).2.1 := by decide +kernel
theorem tyJxab1ab_ok : ∀ k, k < 0 → parseFieldDescriptor (TJxab1ab k).2.2.1 = some (tyJxab1ab k) := by decide +kernel
def RJ9 : String := "java/lang/Math"
def TJ9 : u_T := fun k => match k with
  | _ => ("", "", "", false)
def tyJ9 : Nat → FieldType := fun k => match k with
  | _ => .int
abbrev wsJ90 : List Cond := u_ws RJ9 TJ9 0
theorem nmJ9 : ∀ a, a < 0 → ∀ b, b < 0 → a ≠ b → (TJ9 a).2.1 ≠ (TJ9 b).2.1 := by decide +kernel
theorem tyJ9_ok : ∀ k, k < 0 → parseFieldDescriptor (TJ9 k).2.2.1 = some (tyJ9 k) := by decide +kernel
abbrev cJ9_abs_0f7a4 : ByteArray := prog_15_method_59_code
def yJ9_abs_0f7a4 : MethodName := ⟨RJ9, "abs", "(I)I"⟩
abbrev cJ9_max_7cf53 : ByteArray := prog_15_method_65_code
def yJ9_max_7cf53 : MethodName := ⟨RJ9, "max", "(II)I"⟩
abbrev cJ9_min_7cf53 : ByteArray := prog_15_method_69_code
def yJ9_min_7cf53 : MethodName := ⟨RJ9, "min", "(II)I"⟩
def RJ0 : String := "java/lang/String"
def TJ0 : u_T := fun k => match k with
  | 0 => ("java/lang/String", "value", "[B", true)
  | _ => ("java/lang/String", "coder", "B", true)
def tyJ0 : Nat → FieldType := fun k => match k with
  | 0 => .array .byte
  | _ => .byte
abbrev wsJ00 : List Cond := u_ws RJ0 TJ0 2
theorem nmJ0 : ∀ a, a < 2 → ∀ b, b < 2 → a ≠ b → (TJ0 a).2.1 ≠ (TJ0 b).2.1 := by decide +kernel
theorem tyJ0_ok : ∀ k, k < 2 → parseFieldDescriptor (TJ0 k).2.2.1 = some (tyJ0 k) := by decide +kernel
def RJ10 : String := "java/lang/System"
def TJ10 : u_T := fun k => match k with
  | _ => ("", "", "", false)
def tyJ10 : Nat → FieldType := fun k => match k with
  | _ => .int
abbrev wsJ100 : List Cond := u_ws RJ10 TJ10 0
theorem nmJ10 : ∀ a, a < 0 → ∀ b, b < 0 → a ≠ b → (TJ10 a).2.1 ≠ (TJ10 b).2.1 := by decide +kernel
theorem tyJ10_ok : ∀ k, k < 0 → parseFieldDescriptor (TJ10 k).2.2.1 = some (tyJ10 k) := by decide +kernel
def RJxa1e45 : String := "java/util/AbstractCollection"
def TJxa1e45 : u_T := fun k => match k with
  | _ => ("", "", "", false)
def tyJxa1e45 : Nat → FieldType := fun k => match k with
  | _ => .int
abbrev wsJxa1e450 : List Cond := u_ws RJxa1e45 TJxa1e45 0
theorem nmJxa1e45 : ∀ a, a < 0 → ∀ b, b < 0 → a ≠ b → (TJxa1e45 a).2.1 ≠ (TJxa1e45 b).2.1 := by decide +kernel
theorem tyJxa1e45_ok : ∀ k, k < 0 → parseFieldDescriptor (TJxa1e45 k).2.2.1 = some (tyJxa1e45 k) := by decide +kernel
abbrev cJxa1e45_init_da8c8 : ByteArray := prog_21_method_1_code
def yJxa1e45_init_da8c8 : MethodName := ⟨RJxa1e45, "<init>", "()V"⟩
def RJxc12de : String := "java/util/AbstractList"
def TJxc12de : u_T := fun k => match k with
  | _ => ("", "", "", false)
def tyJxc12de : Nat → FieldType := fun k => match k with
  | _ => .int
abbrev wsJxc12de0 : List Cond := u_ws RJxc12de TJxc12de 0
theorem nmJxc12de : ∀ a, a < 0 → ∀ b, b < 0 → a ≠ b → (TJxc12de a).2.1 ≠ (TJxc12de b).2.1 := by decide +kernel
theorem tyJxc12de_ok : ∀ k, k < 0 → parseFieldDescriptor (TJxc12de k).2.2.1 = some (tyJxc12de k) := by decide +kernel
abbrev cJxc12de_init_da8c8 : ByteArray := prog_22_method_1_code
def yJxc12de_init_da8c8 : MethodName := ⟨RJxc12de, "<init>", "()V"⟩
def RJx4a65c : String := "java/util/ArrayList"
def TJx4a65c : u_T := fun k => match k with
  | 0 => ("java/util/AbstractList", "modCount", "I", false)
  | 1 => ("java/util/ArrayList", "elementData", "[Ljava/lang/Object;", false)
  | _ => ("java/util/ArrayList", "size", "I", false)
def tyJx4a65c : Nat → FieldType := fun k => match k with
  | 0 => .int
  | 1 => .array (.object "java/lang/Object")
  | _ => .int
abbrev wsJx4a65c0 : List Cond := u_ws RJx4a65c TJx4a65c 3
theorem nmJx4a65c : ∀ a, a < 3 → ∀ b, b < 3 → a ≠ b → (TJx4a65c a).2.1 ≠ (TJx4a65c b).2.1 := by decide +kernel
theorem tyJx4a65c_ok : ∀ k, k < 3 → parseFieldDescriptor (TJx4a65c k).2.2.1 = some (tyJx4a65c k) := by decide +kernel
abbrev cJx4a65c_init_da8c8 : ByteArray := prog_23_method_2_code
def yJx4a65c_init_da8c8 : MethodName := ⟨RJx4a65c, "<init>", "()V"⟩
abbrev cJx4a65c_grow_92f84 : ByteArray := prog_23_method_6_code
def yJx4a65c_grow_92f84 : MethodName := ⟨RJx4a65c, "grow", "(I)[Ljava/lang/Object;"⟩
abbrev cJx4a65c_grow_d5877 : ByteArray := prog_23_method_7_code
def yJx4a65c_grow_d5877 : MethodName := ⟨RJx4a65c, "grow", "()[Ljava/lang/Object;"⟩
abbrev cJx4a65c_size_8abf5 : ByteArray := prog_23_method_8_code
def yJx4a65c_size_8abf5 : MethodName := ⟨RJx4a65c, "size", "()I"⟩
abbrev cJx4a65c_isEmpty_aae02 : ByteArray := prog_23_method_9_code
def yJx4a65c_isEmpty_aae02 : MethodName := ⟨RJx4a65c, "isEmpty", "()Z"⟩
abbrev cJx4a65c_elementData_915e3 : ByteArray := prog_23_method_18_code
def yJx4a65c_elementData_915e3 : MethodName := ⟨RJx4a65c, "elementData", "(I)Ljava/lang/Object;"⟩
abbrev cJx4a65c_get_915e3 : ByteArray := prog_23_method_20_code
def yJx4a65c_get_915e3 : MethodName := ⟨RJx4a65c, "get", "(I)Ljava/lang/Object;"⟩
abbrev cJx4a65c_add_72be8 : ByteArray := prog_23_method_24_code
def yJx4a65c_add_72be8 : MethodName := ⟨RJx4a65c, "add", "(Ljava/lang/Object;[Ljava/lang/Object;I)V"⟩
abbrev cJx4a65c_add_9ea2d : ByteArray := prog_23_method_25_code
def yJx4a65c_add_9ea2d : MethodName := ⟨RJx4a65c, "add", "(Ljava/lang/Object;)Z"⟩
abbrev cJx4a65c_remove_915e3 : ByteArray := prog_23_method_29_code
def yJx4a65c_remove_915e3 : MethodName := ⟨RJx4a65c, "remove", "(I)Ljava/lang/Object;"⟩
abbrev cJx4a65c_fastRemove_b59b0 : ByteArray := prog_23_method_39_code
def yJx4a65c_fastRemove_b59b0 : MethodName := ⟨RJx4a65c, "fastRemove", "([Ljava/lang/Object;I)V"⟩
abbrev cJx4a65c_clear_da8c8 : ByteArray := prog_23_method_40_code
def yJx4a65c_clear_da8c8 : MethodName := ⟨RJx4a65c, "clear", "()V"⟩
def RJ7 : String := "java/util/Arrays"
def TJ7 : u_T := fun k => match k with
  | _ => ("", "", "", false)
def tyJ7 : Nat → FieldType := fun k => match k with
  | _ => .int
abbrev wsJ70 : List Cond := u_ws RJ7 TJ7 0
theorem nmJ7 : ∀ a, a < 0 → ∀ b, b < 0 → a ≠ b → (TJ7 a).2.1 ≠ (TJ7 b).2.1 := by decide +kernel
theorem tyJ7_ok : ∀ k, k < 0 → parseFieldDescriptor (TJ7 k).2.2.1 = some (tyJ7 k) := by decide +kernel
abbrev cJ7_copyOf_1904c : ByteArray := prog_24_method_119_code
def yJ7_copyOf_1904c : MethodName := ⟨RJ7, "copyOf", "([Ljava/lang/Object;I)[Ljava/lang/Object;"⟩
abbrev cJ7_copyOf_6403c : ByteArray := prog_24_method_120_code
def yJ7_copyOf_6403c : MethodName := ⟨RJ7, "copyOf", "([Ljava/lang/Object;ILjava/lang/Class;)[Ljava/lang/Object;"⟩
def RJx5ef63 : String := "java/util/Collection"
def TJx5ef63 : u_T := fun k => match k with
  | _ => ("", "", "", false)
def tyJx5ef63 : Nat → FieldType := fun k => match k with
  | _ => .int
abbrev wsJx5ef630 : List Cond := u_ws RJx5ef63 TJx5ef63 0
theorem nmJx5ef63 : ∀ a, a < 0 → ∀ b, b < 0 → a ≠ b → (TJx5ef63 a).2.1 ≠ (TJx5ef63 b).2.1 := by decide +kernel
theorem tyJx5ef63_ok : ∀ k, k < 0 → parseFieldDescriptor (TJx5ef63 k).2.2.1 = some (tyJx5ef63 k) := by decide +kernel
def RJxbd725 : String := "java/util/List"
def TJxbd725 : u_T := fun k => match k with
  | _ => ("", "", "", false)
def tyJxbd725 : Nat → FieldType := fun k => match k with
  | _ => .int
abbrev wsJxbd7250 : List Cond := u_ws RJxbd725 TJxbd725 0
theorem nmJxbd725 : ∀ a, a < 0 → ∀ b, b < 0 → a ≠ b → (TJxbd725 a).2.1 ≠ (TJxbd725 b).2.1 := by decide +kernel
theorem tyJxbd725_ok : ∀ k, k < 0 → parseFieldDescriptor (TJxbd725 k).2.2.1 = some (tyJxbd725 k) := by decide +kernel
def RJ15 : String := "java/util/Objects"
def TJ15 : u_T := fun k => match k with
  | _ => ("", "", "", false)
def tyJ15 : Nat → FieldType := fun k => match k with
  | _ => .int
abbrev wsJ150 : List Cond := u_ws RJ15 TJ15 0
theorem nmJ15 : ∀ a, a < 0 → ∀ b, b < 0 → a ≠ b → (TJ15 a).2.1 ≠ (TJ15 b).2.1 := by decide +kernel
theorem tyJ15_ok : ∀ k, k < 0 → parseFieldDescriptor (TJ15 k).2.2.1 = some (tyJ15 k) := by decide +kernel
abbrev cJ15_checkIndex_7cf53 : ByteArray := prog_28_method_17_code
def yJ15_checkIndex_7cf53 : MethodName := ⟨RJ15, "checkIndex", "(II)I"⟩
def RJxf0a74 : String := "java/util/RandomAccess"
def TJxf0a74 : u_T := fun k => match k with
  | _ => ("", "", "", false)
def tyJxf0a74 : Nat → FieldType := fun k => match k with
  | _ => .int
abbrev wsJxf0a740 : List Cond := u_ws RJxf0a74 TJxf0a74 0
theorem nmJxf0a74 : ∀ a, a < 0 → ∀ b, b < 0 → a ≠ b → (TJxf0a74 a).2.1 ≠ (TJxf0a74 b).2.1 := by decide +kernel
theorem tyJxf0a74_ok : ∀ k, k < 0 → parseFieldDescriptor (TJxf0a74 k).2.2.1 = some (tyJxf0a74 k) := by decide +kernel
def RJxa66e6 : String := "java/util/SequencedCollection"
def TJxa66e6 : u_T := fun k => match k with
  | _ => ("", "", "", false)
def tyJxa66e6 : Nat → FieldType := fun k => match k with
  | _ => .int
abbrev wsJxa66e60 : List Cond := u_ws RJxa66e6 TJxa66e6 0
theorem nmJxa66e6 : ∀ a, a < 0 → ∀ b, b < 0 → a ≠ b → (TJxa66e6 a).2.1 ≠ (TJxa66e6 b).2.1 := by decide +kernel
theorem tyJxa66e6_ok : ∀ k, k < 0 → parseFieldDescriptor (TJxa66e6 k).2.2.1 = some (tyJxa66e6 k) := by decide +kernel
def RJ8 : String := "jdk/internal/util/ArraysSupport"
def TJ8 : u_T := fun k => match k with
  | _ => ("", "", "", false)
def tyJ8 : Nat → FieldType := fun k => match k with
  | _ => .int
abbrev wsJ80 : List Cond := u_ws RJ8 TJ8 0
theorem nmJ8 : ∀ a, a < 0 → ∀ b, b < 0 → a ≠ b → (TJ8 a).2.1 ≠ (TJ8 b).2.1 := by decide +kernel
theorem tyJ8_ok : ∀ k, k < 0 → parseFieldDescriptor (TJ8 k).2.2.1 = some (tyJ8 k) := by decide +kernel
abbrev cJ8_newLength_cabcc : ByteArray := prog_31_method_27_code
def yJ8_newLength_cabcc : MethodName := ⟨RJ8, "newLength", "(III)I"⟩
abbrev cJ8_hugeLength_7cf53 : ByteArray := prog_31_method_28_code
def yJ8_hugeLength_7cf53 : MethodName := ⟨RJ8, "hugeLength", "(II)I"⟩
def RJ3 : String := "jdk/internal/util/Preconditions"
def TJ3 : u_T := fun k => match k with
  | _ => ("", "", "", false)
def tyJ3 : Nat → FieldType := fun k => match k with
  | _ => .int
abbrev wsJ30 : List Cond := u_ws RJ3 TJ3 0
theorem nmJ3 : ∀ a, a < 0 → ∀ b, b < 0 → a ≠ b → (TJ3 a).2.1 ≠ (TJ3 b).2.1 := by decide +kernel
theorem tyJ3_ok : ∀ k, k < 0 → parseFieldDescriptor (TJ3 k).2.2.1 = some (tyJ3 k) := by decide +kernel
abbrev cJ3_checkIndex_8e157 : ByteArray := prog_32_method_11_code
def yJ3_checkIndex_8e157 : MethodName := ⟨RJ3, "checkIndex", "(IILjava/util/function/BiFunction;)I"⟩
def RL : String := "OpenFloorsLaw"
abbrev cL_addFloor : ByteArray := method_3_code
def yL_addFloor : MethodName := ⟨RL, "addFloor", "(LOpenFloors;II[J)I"⟩
abbrev cL_setCost : ByteArray := method_4_code
def yL_setCost : MethodName := ⟨RL, "setCost", "(LOpenFloors;II[J)I"⟩
abbrev cL_addPerson : ByteArray := method_5_code
def yL_addPerson : MethodName := ⟨RL, "addPerson", "(LOpenFloors;I[J)I"⟩
abbrev cL_standing : ByteArray := method_6_code
def yL_standing : MethodName := ⟨RL, "standing", "(LOpenFloors;I[J)I"⟩
abbrev cL_book : ByteArray := method_7_code
def yL_book : MethodName := ⟨RL, "book", "(LOpenFloors;II[J)I"⟩
abbrev cL_cancel : ByteArray := method_8_code
def yL_cancel : MethodName := ⟨RL, "cancel", "(LOpenFloors;I[J)I"⟩
abbrev cL_bookingAt : ByteArray := method_9_code
def yL_bookingAt : MethodName := ⟨RL, "bookingAt", "(LOpenFloors;I[J)I"⟩
abbrev cL_lossOf : ByteArray := method_10_code
def yL_lossOf : MethodName := ⟨RL, "lossOf", "(LOpenFloors;I[J)I"⟩
abbrev cL_nextDay : ByteArray := method_11_code
def yL_nextDay : MethodName := ⟨RL, "nextDay", "(LOpenFloors;[J)I"⟩
abbrev cL_comeIn : ByteArray := method_12_code
def yL_comeIn : MethodName := ⟨RL, "comeIn", "(LOpenFloors;I[J)I"⟩
abbrev cL_leave : ByteArray := method_13_code
def yL_leave : MethodName := ⟨RL, "leave", "(LOpenFloors;I[J)I"⟩
abbrev cL_seatOf : ByteArray := method_14_code
def yL_seatOf : MethodName := ⟨RL, "seatOf", "(LOpenFloors;I[J)I"⟩
abbrev cL_isIn : ByteArray := method_15_code
def yL_isIn : MethodName := ⟨RL, "isIn", "(LOpenFloors;I[J)I"⟩
abbrev cL_isOpen : ByteArray := method_16_code
def yL_isOpen : MethodName := ⟨RL, "isOpen", "(LOpenFloors;I[J)I"⟩
abbrev cL_seated : ByteArray := method_17_code
def yL_seated : MethodName := ⟨RL, "seated", "(LOpenFloors;II[J)I"⟩
abbrev cL_pass : ByteArray := method_18_code
def yL_pass : MethodName := ⟨RL, "pass", "(LOpenFloors;I[J)I"⟩
abbrev cL_warmth : ByteArray := method_19_code
def yL_warmth : MethodName := ⟨RL, "warmth", "(LOpenFloors;I[J)I"⟩
abbrev cL_air : ByteArray := method_20_code
def yL_air : MethodName := ⟨RL, "air", "(LOpenFloors;I[J)I"⟩
abbrev cL_meanStanding : ByteArray := method_21_code
def yL_meanStanding : MethodName := ⟨RL, "meanStanding", "(LOpenFloors;[D)I"⟩
abbrev cL_givenShare : ByteArray := method_22_code
def yL_givenShare : MethodName := ⟨RL, "givenShare", "(LOpenFloors;[D)I"⟩
abbrev cL_law : ByteArray := code
def yL_law : MethodName := ⟨RL, "law", "([I)Z"⟩
abbrev vwCl : List vw_C := [(RJ0, TJ0, 2), (RJx00060, TJx00060, 6), (RJx4a65c, TJx4a65c, 3), (RX0, TX0, 7), (RX1, TX1, 7), (RX2, TX2, 8), (RX3, TX3, 22)]

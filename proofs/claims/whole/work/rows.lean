section
-- ===== PART A: goes FIRST, ahead of the names: the tables' words, and 'selects' of the private methods out of them =====
/-- a private method of a class that the tables say can be made, by its rows of tables_1 -/
def lw_okq (q : MethodName × Nat) : Prop := (q.1.cls ≠ "java/lang/invoke/MethodHandle" ∧ q.1.cls ≠ "java/lang/invoke/VarHandle") ∧ Cond.instantiable q.1.cls q.2 ∈ tables_1 ∧ Cond.privateMethod q.1 ∈ tables_1 ∧ Cond.instanceMethod q.1 ∈ tables_1
theorem lw_p0 : lw_okq (⟨"OpenFloors", "findPlanKey", "()I"⟩, 8) := ⟨⟨by decide +kernel, by decide +kernel⟩, List.mem_of_getElem? (i := 26) (by decide +kernel), List.mem_of_getElem? (i := 97) (by decide +kernel), List.mem_of_getElem? (i := 98) (by decide +kernel)⟩
theorem lw_p1 : lw_okq (⟨"OpenFloors", "findKeysUpTo", "(LOpenFloors$Floor;I)V"⟩, 8) := ⟨⟨by decide +kernel, by decide +kernel⟩, List.mem_of_getElem? (i := 26) (by decide +kernel), List.mem_of_getElem? (i := 117) (by decide +kernel), List.mem_of_getElem? (i := 118) (by decide +kernel)⟩
theorem lw_p2 : lw_okq (⟨"OpenFloors", "lossBetween", "(II)I"⟩, 8) := ⟨⟨by decide +kernel, by decide +kernel⟩, List.mem_of_getElem? (i := 26) (by decide +kernel), List.mem_of_getElem? (i := 126) (by decide +kernel), List.mem_of_getElem? (i := 127) (by decide +kernel)⟩
theorem lw_p3 : lw_okq (⟨"OpenFloors", "addFloorToSetsOf", "(LOpenFloors$Floor;LOpenFloors$Floor;I)V"⟩, 8) := ⟨⟨by decide +kernel, by decide +kernel⟩, List.mem_of_getElem? (i := 26) (by decide +kernel), List.mem_of_getElem? (i := 142) (by decide +kernel), List.mem_of_getElem? (i := 143) (by decide +kernel)⟩
theorem lw_p4 : lw_okq (⟨"OpenFloors", "allFloors", "()I"⟩, 8) := ⟨⟨by decide +kernel, by decide +kernel⟩, List.mem_of_getElem? (i := 26) (by decide +kernel), List.mem_of_getElem? (i := 154) (by decide +kernel), List.mem_of_getElem? (i := 155) (by decide +kernel)⟩
theorem lw_p5 : lw_okq (⟨"OpenFloors", "fits", "(I)Z"⟩, 8) := ⟨⟨by decide +kernel, by decide +kernel⟩, List.mem_of_getElem? (i := 26) (by decide +kernel), List.mem_of_getElem? (i := 158) (by decide +kernel), List.mem_of_getElem? (i := 159) (by decide +kernel)⟩
theorem lw_p6 : lw_okq (⟨"OpenFloors", "seatsOfSet", "(I)I"⟩, 8) := ⟨⟨by decide +kernel, by decide +kernel⟩, List.mem_of_getElem? (i := 26) (by decide +kernel), List.mem_of_getElem? (i := 162) (by decide +kernel), List.mem_of_getElem? (i := 163) (by decide +kernel)⟩
theorem lw_p7 : lw_okq (⟨"OpenFloors", "lossOfSet", "(I)I"⟩, 8) := ⟨⟨by decide +kernel, by decide +kernel⟩, List.mem_of_getElem? (i := 26) (by decide +kernel), List.mem_of_getElem? (i := 171) (by decide +kernel), List.mem_of_getElem? (i := 172) (by decide +kernel)⟩
theorem lw_p8 : lw_okq (⟨"OpenFloors", "distanceToSet", "(LOpenFloors$Floor;I)I"⟩, 8) := ⟨⟨by decide +kernel, by decide +kernel⟩, List.mem_of_getElem? (i := 26) (by decide +kernel), List.mem_of_getElem? (i := 175) (by decide +kernel), List.mem_of_getElem? (i := 176) (by decide +kernel)⟩
theorem lw_p9 : lw_okq (⟨"OpenFloors", "peopleAreSound", "()Z"⟩, 8) := ⟨⟨by decide +kernel, by decide +kernel⟩, List.mem_of_getElem? (i := 26) (by decide +kernel), List.mem_of_getElem? (i := 216) (by decide +kernel), List.mem_of_getElem? (i := 217) (by decide +kernel)⟩
theorem lw_p10 : lw_okq (⟨"OpenFloors", "floorsAreSound", "()Z"⟩, 8) := ⟨⟨by decide +kernel, by decide +kernel⟩, List.mem_of_getElem? (i := 26) (by decide +kernel), List.mem_of_getElem? (i := 220) (by decide +kernel), List.mem_of_getElem? (i := 221) (by decide +kernel)⟩
theorem lw_p11 : lw_okq (⟨"OpenFloors", "countSeatsGivenOn", "(LOpenFloors$Floor;)I"⟩, 8) := ⟨⟨by decide +kernel, by decide +kernel⟩, List.mem_of_getElem? (i := 26) (by decide +kernel), List.mem_of_getElem? (i := 224) (by decide +kernel), List.mem_of_getElem? (i := 225) (by decide +kernel)⟩
theorem lw_p12 : lw_okq (⟨"java/lang/Throwable", "fillInStackTrace", "(I)Ljava/lang/Throwable;"⟩, 6) := ⟨⟨by decide +kernel, by decide +kernel⟩, List.mem_of_getElem? (i := 279) (by decide +kernel), List.mem_of_getElem? (i := 277) (by decide +kernel), List.mem_of_getElem? (i := 278) (by decide +kernel)⟩
theorem lw_p13 : lw_okq (⟨"java/util/ArrayList", "add", "(Ljava/lang/Object;[Ljava/lang/Object;I)V"⟩, 3) := ⟨⟨by decide +kernel, by decide +kernel⟩, List.mem_of_getElem? (i := 34) (by decide +kernel), List.mem_of_getElem? (i := 367) (by decide +kernel), List.mem_of_getElem? (i := 368) (by decide +kernel)⟩
theorem lw_p14 : lw_okq (⟨"java/util/ArrayList", "grow", "()[Ljava/lang/Object;"⟩, 3) := ⟨⟨by decide +kernel, by decide +kernel⟩, List.mem_of_getElem? (i := 34) (by decide +kernel), List.mem_of_getElem? (i := 371) (by decide +kernel), List.mem_of_getElem? (i := 372) (by decide +kernel)⟩
theorem lw_p15 : lw_okq (⟨"java/util/ArrayList", "grow", "(I)[Ljava/lang/Object;"⟩, 3) := ⟨⟨by decide +kernel, by decide +kernel⟩, List.mem_of_getElem? (i := 34) (by decide +kernel), List.mem_of_getElem? (i := 375) (by decide +kernel), List.mem_of_getElem? (i := 376) (by decide +kernel)⟩
def lw_privs_1 : List (MethodName × Nat) := [(⟨"OpenFloors", "findPlanKey", "()I"⟩, 8), (⟨"OpenFloors", "findKeysUpTo", "(LOpenFloors$Floor;I)V"⟩, 8), (⟨"OpenFloors", "lossBetween", "(II)I"⟩, 8), (⟨"OpenFloors", "addFloorToSetsOf", "(LOpenFloors$Floor;LOpenFloors$Floor;I)V"⟩, 8), (⟨"OpenFloors", "allFloors", "()I"⟩, 8), (⟨"OpenFloors", "fits", "(I)Z"⟩, 8), (⟨"OpenFloors", "seatsOfSet", "(I)I"⟩, 8), (⟨"OpenFloors", "lossOfSet", "(I)I"⟩, 8), (⟨"OpenFloors", "distanceToSet", "(LOpenFloors$Floor;I)I"⟩, 8), (⟨"OpenFloors", "peopleAreSound", "()Z"⟩, 8), (⟨"OpenFloors", "floorsAreSound", "()Z"⟩, 8), (⟨"OpenFloors", "countSeatsGivenOn", "(LOpenFloors$Floor;)I"⟩, 8), (⟨"java/lang/Throwable", "fillInStackTrace", "(I)Ljava/lang/Throwable;"⟩, 6), (⟨"java/util/ArrayList", "add", "(Ljava/lang/Object;[Ljava/lang/Object;I)V"⟩, 3), (⟨"java/util/ArrayList", "grow", "()[Ljava/lang/Object;"⟩, 3), (⟨"java/util/ArrayList", "grow", "(I)[Ljava/lang/Object;"⟩, 3)]
theorem lw_r1 : ∀ q ∈ lw_privs_1, lw_okq q := List.forall_mem_cons.mpr ⟨lw_p0, List.forall_mem_cons.mpr ⟨lw_p1, List.forall_mem_cons.mpr ⟨lw_p2, List.forall_mem_cons.mpr ⟨lw_p3, List.forall_mem_cons.mpr ⟨lw_p4, List.forall_mem_cons.mpr ⟨lw_p5, List.forall_mem_cons.mpr ⟨lw_p6, List.forall_mem_cons.mpr ⟨lw_p7, List.forall_mem_cons.mpr ⟨lw_p8, List.forall_mem_cons.mpr ⟨lw_p9, List.forall_mem_cons.mpr ⟨lw_p10, List.forall_mem_cons.mpr ⟨lw_p11, List.forall_mem_cons.mpr ⟨lw_p12, List.forall_mem_cons.mpr ⟨lw_p13, List.forall_mem_cons.mpr ⟨lw_p14, List.forall_mem_cons.mpr ⟨lw_p15, fun _ h => absurd h List.not_mem_nil⟩⟩⟩⟩⟩⟩⟩⟩⟩⟩⟩⟩⟩⟩⟩⟩
theorem lw_p16 : lw_okq (⟨"OpenFloors", "existingFloor", "(I)LOpenFloors$Floor;"⟩, 8) := ⟨⟨by decide +kernel, by decide +kernel⟩, List.mem_of_getElem? (i := 26) (by decide +kernel), List.mem_of_getElem? (i := 451) (by decide +kernel), List.mem_of_getElem? (i := 452) (by decide +kernel)⟩
theorem lw_p17 : lw_okq (⟨"OpenFloors", "existingPerson", "(I)LOpenFloors$Person;"⟩, 8) := ⟨⟨by decide +kernel, by decide +kernel⟩, List.mem_of_getElem? (i := 26) (by decide +kernel), List.mem_of_getElem? (i := 522) (by decide +kernel), List.mem_of_getElem? (i := 523) (by decide +kernel)⟩
theorem lw_p18 : lw_okq (⟨"OpenFloors", "removeBooking", "(LOpenFloors$Person;)V"⟩, 8) := ⟨⟨by decide +kernel, by decide +kernel⟩, List.mem_of_getElem? (i := 26) (by decide +kernel), List.mem_of_getElem? (i := 575) (by decide +kernel), List.mem_of_getElem? (i := 576) (by decide +kernel)⟩
theorem lw_p19 : lw_okq (⟨"java/util/ArrayList", "fastRemove", "([Ljava/lang/Object;I)V"⟩, 3) := ⟨⟨by decide +kernel, by decide +kernel⟩, List.mem_of_getElem? (i := 34) (by decide +kernel), List.mem_of_getElem? (i := 583) (by decide +kernel), List.mem_of_getElem? (i := 584) (by decide +kernel)⟩
theorem lw_p20 : lw_okq (⟨"OpenFloors", "countNoShows", "()I"⟩, 8) := ⟨⟨by decide +kernel, by decide +kernel⟩, List.mem_of_getElem? (i := 26) (by decide +kernel), List.mem_of_getElem? (i := 613) (by decide +kernel), List.mem_of_getElem? (i := 614) (by decide +kernel)⟩
theorem lw_p21 : lw_okq (⟨"OpenFloors", "judgePeople", "()V"⟩, 8) := ⟨⟨by decide +kernel, by decide +kernel⟩, List.mem_of_getElem? (i := 26) (by decide +kernel), List.mem_of_getElem? (i := 621) (by decide +kernel), List.mem_of_getElem? (i := 622) (by decide +kernel)⟩
theorem lw_p22 : lw_okq (⟨"OpenFloors", "cleanOpenFloors", "()V"⟩, 8) := ⟨⟨by decide +kernel, by decide +kernel⟩, List.mem_of_getElem? (i := 26) (by decide +kernel), List.mem_of_getElem? (i := 631) (by decide +kernel), List.mem_of_getElem? (i := 632) (by decide +kernel)⟩
theorem lw_p23 : lw_okq (⟨"OpenFloors", "countGuestsOf", "(LOpenFloors$Floor;)I"⟩, 8) := ⟨⟨by decide +kernel, by decide +kernel⟩, List.mem_of_getElem? (i := 26) (by decide +kernel), List.mem_of_getElem? (i := 635) (by decide +kernel), List.mem_of_getElem? (i := 636) (by decide +kernel)⟩
theorem lw_p24 : lw_okq (⟨"OpenFloors", "sendPeopleHome", "()V"⟩, 8) := ⟨⟨by decide +kernel, by decide +kernel⟩, List.mem_of_getElem? (i := 26) (by decide +kernel), List.mem_of_getElem? (i := 639) (by decide +kernel), List.mem_of_getElem? (i := 640) (by decide +kernel)⟩
theorem lw_p25 : lw_okq (⟨"OpenFloors", "openFloorsOf", "(I)V"⟩, 8) := ⟨⟨by decide +kernel, by decide +kernel⟩, List.mem_of_getElem? (i := 26) (by decide +kernel), List.mem_of_getElem? (i := 647) (by decide +kernel), List.mem_of_getElem? (i := 648) (by decide +kernel)⟩
theorem lw_p26 : lw_okq (⟨"OpenFloors", "giveSeats", "()V"⟩, 8) := ⟨⟨by decide +kernel, by decide +kernel⟩, List.mem_of_getElem? (i := 26) (by decide +kernel), List.mem_of_getElem? (i := 651) (by decide +kernel), List.mem_of_getElem? (i := 652) (by decide +kernel)⟩
theorem lw_p27 : lw_okq (⟨"OpenFloors", "giveSeat", "(LOpenFloors$Person;)V"⟩, 8) := ⟨⟨by decide +kernel, by decide +kernel⟩, List.mem_of_getElem? (i := 26) (by decide +kernel), List.mem_of_getElem? (i := 655) (by decide +kernel), List.mem_of_getElem? (i := 656) (by decide +kernel)⟩
theorem lw_p28 : lw_okq (⟨"OpenFloors", "suitsBetter", "(LOpenFloors$Person;LOpenFloors$Floor;LOpenFloors$Floor;)Z"⟩, 8) := ⟨⟨by decide +kernel, by decide +kernel⟩, List.mem_of_getElem? (i := 26) (by decide +kernel), List.mem_of_getElem? (i := 659) (by decide +kernel), List.mem_of_getElem? (i := 660) (by decide +kernel)⟩
theorem lw_p29 : lw_okq (⟨"OpenFloors", "countTeamOn", "(ILOpenFloors$Floor;)I"⟩, 8) := ⟨⟨by decide +kernel, by decide +kernel⟩, List.mem_of_getElem? (i := 26) (by decide +kernel), List.mem_of_getElem? (i := 663) (by decide +kernel), List.mem_of_getElem? (i := 664) (by decide +kernel)⟩
theorem lw_p30 : lw_okq (⟨"OpenFloors", "dropBookings", "()V"⟩, 8) := ⟨⟨by decide +kernel, by decide +kernel⟩, List.mem_of_getElem? (i := 26) (by decide +kernel), List.mem_of_getElem? (i := 667) (by decide +kernel), List.mem_of_getElem? (i := 668) (by decide +kernel)⟩
theorem lw_p31 : lw_okq (⟨"OpenFloors", "countPeopleIn", "()I"⟩, 8) := ⟨⟨by decide +kernel, by decide +kernel⟩, List.mem_of_getElem? (i := 26) (by decide +kernel), List.mem_of_getElem? (i := 692) (by decide +kernel), List.mem_of_getElem? (i := 693) (by decide +kernel)⟩
def lw_privs_2 : List (MethodName × Nat) := [(⟨"OpenFloors", "existingFloor", "(I)LOpenFloors$Floor;"⟩, 8), (⟨"OpenFloors", "existingPerson", "(I)LOpenFloors$Person;"⟩, 8), (⟨"OpenFloors", "removeBooking", "(LOpenFloors$Person;)V"⟩, 8), (⟨"java/util/ArrayList", "fastRemove", "([Ljava/lang/Object;I)V"⟩, 3), (⟨"OpenFloors", "countNoShows", "()I"⟩, 8), (⟨"OpenFloors", "judgePeople", "()V"⟩, 8), (⟨"OpenFloors", "cleanOpenFloors", "()V"⟩, 8), (⟨"OpenFloors", "countGuestsOf", "(LOpenFloors$Floor;)I"⟩, 8), (⟨"OpenFloors", "sendPeopleHome", "()V"⟩, 8), (⟨"OpenFloors", "openFloorsOf", "(I)V"⟩, 8), (⟨"OpenFloors", "giveSeats", "()V"⟩, 8), (⟨"OpenFloors", "giveSeat", "(LOpenFloors$Person;)V"⟩, 8), (⟨"OpenFloors", "suitsBetter", "(LOpenFloors$Person;LOpenFloors$Floor;LOpenFloors$Floor;)Z"⟩, 8), (⟨"OpenFloors", "countTeamOn", "(ILOpenFloors$Floor;)I"⟩, 8), (⟨"OpenFloors", "dropBookings", "()V"⟩, 8), (⟨"OpenFloors", "countPeopleIn", "()I"⟩, 8)]
theorem lw_r2 : ∀ q ∈ lw_privs_2, lw_okq q := List.forall_mem_cons.mpr ⟨lw_p16, List.forall_mem_cons.mpr ⟨lw_p17, List.forall_mem_cons.mpr ⟨lw_p18, List.forall_mem_cons.mpr ⟨lw_p19, List.forall_mem_cons.mpr ⟨lw_p20, List.forall_mem_cons.mpr ⟨lw_p21, List.forall_mem_cons.mpr ⟨lw_p22, List.forall_mem_cons.mpr ⟨lw_p23, List.forall_mem_cons.mpr ⟨lw_p24, List.forall_mem_cons.mpr ⟨lw_p25, List.forall_mem_cons.mpr ⟨lw_p26, List.forall_mem_cons.mpr ⟨lw_p27, List.forall_mem_cons.mpr ⟨lw_p28, List.forall_mem_cons.mpr ⟨lw_p29, List.forall_mem_cons.mpr ⟨lw_p30, List.forall_mem_cons.mpr ⟨lw_p31, fun _ h => absurd h List.not_mem_nil⟩⟩⟩⟩⟩⟩⟩⟩⟩⟩⟩⟩⟩⟩⟩⟩
theorem lw_p32 : lw_okq (⟨"OpenFloors", "passHourOn", "(LOpenFloors$Floor;)I"⟩, 8) := ⟨⟨by decide +kernel, by decide +kernel⟩, List.mem_of_getElem? (i := 26) (by decide +kernel), List.mem_of_getElem? (i := 732) (by decide +kernel), List.mem_of_getElem? (i := 733) (by decide +kernel)⟩
theorem lw_p33 : lw_okq (⟨"OpenFloors", "countPresentOn", "(LOpenFloors$Floor;)I"⟩, 8) := ⟨⟨by decide +kernel, by decide +kernel⟩, List.mem_of_getElem? (i := 26) (by decide +kernel), List.mem_of_getElem? (i := 736) (by decide +kernel), List.mem_of_getElem? (i := 737) (by decide +kernel)⟩
theorem lw_p34 : lw_okq (⟨"OpenFloorsModel", "fails", "(I)I"⟩, 22) := ⟨⟨by decide +kernel, by decide +kernel⟩, List.mem_of_getElem? (i := 803) (by decide +kernel), List.mem_of_getElem? (i := 888) (by decide +kernel), List.mem_of_getElem? (i := 889) (by decide +kernel)⟩
theorem lw_p35 : lw_okq (⟨"OpenFloorsModel", "tells", "(I)I"⟩, 22) := ⟨⟨by decide +kernel, by decide +kernel⟩, List.mem_of_getElem? (i := 803) (by decide +kernel), List.mem_of_getElem? (i := 892) (by decide +kernel), List.mem_of_getElem? (i := 893) (by decide +kernel)⟩
theorem lw_p36 : lw_okq (⟨"OpenFloorsModel", "isFloor", "(I)Z"⟩, 22) := ⟨⟨by decide +kernel, by decide +kernel⟩, List.mem_of_getElem? (i := 803) (by decide +kernel), List.mem_of_getElem? (i := 900) (by decide +kernel), List.mem_of_getElem? (i := 901) (by decide +kernel)⟩
theorem lw_p37 : lw_okq (⟨"OpenFloorsModel", "isPerson", "(I)Z"⟩, 22) := ⟨⟨by decide +kernel, by decide +kernel⟩, List.mem_of_getElem? (i := 803) (by decide +kernel), List.mem_of_getElem? (i := 912) (by decide +kernel), List.mem_of_getElem? (i := 913) (by decide +kernel)⟩
theorem lw_p38 : lw_okq (⟨"OpenFloorsModel", "bookingOf", "(I)I"⟩, 22) := ⟨⟨by decide +kernel, by decide +kernel⟩, List.mem_of_getElem? (i := 803) (by decide +kernel), List.mem_of_getElem? (i := 920) (by decide +kernel), List.mem_of_getElem? (i := 921) (by decide +kernel)⟩
theorem lw_p39 : lw_okq (⟨"OpenFloorsModel", "seatsIn", "(I)I"⟩, 22) := ⟨⟨by decide +kernel, by decide +kernel⟩, List.mem_of_getElem? (i := 803) (by decide +kernel), List.mem_of_getElem? (i := 924) (by decide +kernel), List.mem_of_getElem? (i := 925) (by decide +kernel)⟩
theorem lw_p40 : lw_okq (⟨"OpenFloorsModel", "best", "()I"⟩, 22) := ⟨⟨by decide +kernel, by decide +kernel⟩, List.mem_of_getElem? (i := 803) (by decide +kernel), List.mem_of_getElem? (i := 944) (by decide +kernel), List.mem_of_getElem? (i := 945) (by decide +kernel)⟩
theorem lw_p41 : lw_okq (⟨"OpenFloorsModel", "fits", "(I)Z"⟩, 22) := ⟨⟨by decide +kernel, by decide +kernel⟩, List.mem_of_getElem? (i := 803) (by decide +kernel), List.mem_of_getElem? (i := 948) (by decide +kernel), List.mem_of_getElem? (i := 949) (by decide +kernel)⟩
theorem lw_p42 : lw_okq (⟨"OpenFloorsModel", "loss", "(I)I"⟩, 22) := ⟨⟨by decide +kernel, by decide +kernel⟩, List.mem_of_getElem? (i := 803) (by decide +kernel), List.mem_of_getElem? (i := 952) (by decide +kernel), List.mem_of_getElem? (i := 953) (by decide +kernel)⟩
theorem lw_p43 : lw_okq (⟨"OpenFloorsModel", "judges", "()I"⟩, 22) := ⟨⟨by decide +kernel, by decide +kernel⟩, List.mem_of_getElem? (i := 803) (by decide +kernel), List.mem_of_getElem? (i := 975) (by decide +kernel), List.mem_of_getElem? (i := 976) (by decide +kernel)⟩
theorem lw_p44 : lw_okq (⟨"OpenFloorsModel", "cleans", "()V"⟩, 22) := ⟨⟨by decide +kernel, by decide +kernel⟩, List.mem_of_getElem? (i := 803) (by decide +kernel), List.mem_of_getElem? (i := 979) (by decide +kernel), List.mem_of_getElem? (i := 980) (by decide +kernel)⟩
theorem lw_p45 : lw_okq (⟨"OpenFloorsModel", "gives", "(I)V"⟩, 22) := ⟨⟨by decide +kernel, by decide +kernel⟩, List.mem_of_getElem? (i := 803) (by decide +kernel), List.mem_of_getElem? (i := 985) (by decide +kernel), List.mem_of_getElem? (i := 986) (by decide +kernel)⟩
theorem lw_p46 : lw_okq (⟨"OpenFloorsModel", "sitting", "(II)I"⟩, 22) := ⟨⟨by decide +kernel, by decide +kernel⟩, List.mem_of_getElem? (i := 803) (by decide +kernel), List.mem_of_getElem? (i := 989) (by decide +kernel), List.mem_of_getElem? (i := 990) (by decide +kernel)⟩
theorem lw_p47 : lw_okq (⟨"OpenFloorsModel", "isNearer", "(III)Z"⟩, 22) := ⟨⟨by decide +kernel, by decide +kernel⟩, List.mem_of_getElem? (i := 803) (by decide +kernel), List.mem_of_getElem? (i := 993) (by decide +kernel), List.mem_of_getElem? (i := 994) (by decide +kernel)⟩
def lw_privs_3 : List (MethodName × Nat) := [(⟨"OpenFloors", "passHourOn", "(LOpenFloors$Floor;)I"⟩, 8), (⟨"OpenFloors", "countPresentOn", "(LOpenFloors$Floor;)I"⟩, 8), (⟨"OpenFloorsModel", "fails", "(I)I"⟩, 22), (⟨"OpenFloorsModel", "tells", "(I)I"⟩, 22), (⟨"OpenFloorsModel", "isFloor", "(I)Z"⟩, 22), (⟨"OpenFloorsModel", "isPerson", "(I)Z"⟩, 22), (⟨"OpenFloorsModel", "bookingOf", "(I)I"⟩, 22), (⟨"OpenFloorsModel", "seatsIn", "(I)I"⟩, 22), (⟨"OpenFloorsModel", "best", "()I"⟩, 22), (⟨"OpenFloorsModel", "fits", "(I)Z"⟩, 22), (⟨"OpenFloorsModel", "loss", "(I)I"⟩, 22), (⟨"OpenFloorsModel", "judges", "()I"⟩, 22), (⟨"OpenFloorsModel", "cleans", "()V"⟩, 22), (⟨"OpenFloorsModel", "gives", "(I)V"⟩, 22), (⟨"OpenFloorsModel", "sitting", "(II)I"⟩, 22), (⟨"OpenFloorsModel", "isNearer", "(III)Z"⟩, 22)]
theorem lw_r3 : ∀ q ∈ lw_privs_3, lw_okq q := List.forall_mem_cons.mpr ⟨lw_p32, List.forall_mem_cons.mpr ⟨lw_p33, List.forall_mem_cons.mpr ⟨lw_p34, List.forall_mem_cons.mpr ⟨lw_p35, List.forall_mem_cons.mpr ⟨lw_p36, List.forall_mem_cons.mpr ⟨lw_p37, List.forall_mem_cons.mpr ⟨lw_p38, List.forall_mem_cons.mpr ⟨lw_p39, List.forall_mem_cons.mpr ⟨lw_p40, List.forall_mem_cons.mpr ⟨lw_p41, List.forall_mem_cons.mpr ⟨lw_p42, List.forall_mem_cons.mpr ⟨lw_p43, List.forall_mem_cons.mpr ⟨lw_p44, List.forall_mem_cons.mpr ⟨lw_p45, List.forall_mem_cons.mpr ⟨lw_p46, List.forall_mem_cons.mpr ⟨lw_p47, fun _ h => absurd h List.not_mem_nil⟩⟩⟩⟩⟩⟩⟩⟩⟩⟩⟩⟩⟩⟩⟩⟩
theorem lw_p48 : lw_okq (⟨"OpenFloorsModel", "asks", "(IZ)Z"⟩, 22) := ⟨⟨by decide +kernel, by decide +kernel⟩, List.mem_of_getElem? (i := 803) (by decide +kernel), List.mem_of_getElem? (i := 1017) (by decide +kernel), List.mem_of_getElem? (i := 1018) (by decide +kernel)⟩
theorem lw_p49 : lw_okq (⟨"OpenFloorsModel", "hour", "(I)I"⟩, 22) := ⟨⟨by decide +kernel, by decide +kernel⟩, List.mem_of_getElem? (i := 803) (by decide +kernel), List.mem_of_getElem? (i := 1033) (by decide +kernel), List.mem_of_getElem? (i := 1034) (by decide +kernel)⟩
theorem lw_p50 : lw_okq (⟨"OpenFloorsModel", "inside", "(I)I"⟩, 22) := ⟨⟨by decide +kernel, by decide +kernel⟩, List.mem_of_getElem? (i := 803) (by decide +kernel), List.mem_of_getElem? (i := 1037) (by decide +kernel), List.mem_of_getElem? (i := 1038) (by decide +kernel)⟩
theorem lw_p51 : lw_okq (⟨"OpenFloorsModel", "tellsLong", "(J)J"⟩, 22) := ⟨⟨by decide +kernel, by decide +kernel⟩, List.mem_of_getElem? (i := 803) (by decide +kernel), List.mem_of_getElem? (i := 1053) (by decide +kernel), List.mem_of_getElem? (i := 1054) (by decide +kernel)⟩
def lw_privs_4 : List (MethodName × Nat) := [(⟨"OpenFloorsModel", "asks", "(IZ)Z"⟩, 22), (⟨"OpenFloorsModel", "hour", "(I)I"⟩, 22), (⟨"OpenFloorsModel", "inside", "(I)I"⟩, 22), (⟨"OpenFloorsModel", "tellsLong", "(J)J"⟩, 22)]
theorem lw_r4 : ∀ q ∈ lw_privs_4, lw_okq q := List.forall_mem_cons.mpr ⟨lw_p48, List.forall_mem_cons.mpr ⟨lw_p49, List.forall_mem_cons.mpr ⟨lw_p50, List.forall_mem_cons.mpr ⟨lw_p51, fun _ h => absurd h List.not_mem_nil⟩⟩⟩⟩
def lw_privs : List (MethodName × Nat) := lw_privs_1 ++ (lw_privs_2 ++ (lw_privs_3 ++ (lw_privs_4)))
def lw_tbl : List Cond := k2_sels lw_privs ++ tables_1
theorem lw_privs_ok : ∀ q ∈ lw_privs, lw_okq q := by
  show ∀ q ∈ lw_privs_1 ++ (lw_privs_2 ++ (lw_privs_3 ++ (lw_privs_4))), lw_okq q
  exact List.forall_mem_append.mpr ⟨lw_r1, List.forall_mem_append.mpr ⟨lw_r2, List.forall_mem_append.mpr ⟨lw_r3, lw_r4⟩⟩⟩
/-- the streams that the claim lets the run draw from -/
abbrev lw_cs : List Choice := [Jvm.Choice.named "NaN.bits"]
theorem lw_bits : nanBits ∈ lw_cs := by first | decide | exact List.mem_cons_self | simp [lw_cs, nanBits]
end
section
/-! ===== BEGIN words of one list among another's, by their places ===== -/
theorem goodIn_r {big : List Cond} (ws : List Cond) (ps : List Nat) (hp : ws = ps.filterMap (fun i => big[i]?)) (h : ws.all goodWord = true) : GoodIn big ws := by
  intro w hw
  have h1 := List.all_eq_true.mp h w hw
  rw [hp] at hw
  obtain ⟨i, -, hi⟩ := List.mem_filterMap.mp hw
  have hm : w ∈ big := by first | exact List.mem_of_getElem? hi | exact List.getElem?_mem hi
  exact ⟨hm, good_of_word h1⟩
theorem goodIn_app {big a b : List Cond} (ha : GoodIn big a) (hb : GoodIn big b) : GoodIn big (a ++ b) := fun w h => (List.mem_append.mp h).elim (ha w) (hb w)
theorem goodIn_ca {big a b : List Cond} {c : Cond} (ha : GoodIn big (c :: a)) (hb : GoodIn big b) : GoodIn big (c :: (a ++ b)) := fun w h => (List.mem_cons.mp h).elim (fun e => ha w (List.mem_cons.mpr (Or.inl e))) (fun h => (List.mem_append.mp h).elim (fun h => ha w (List.mem_cons.mpr (Or.inr h))) (hb w))
theorem goodIn_sub {big ws : List Cond} (hm : ∀ w ∈ ws, w ∈ big) (h : ws.all goodWord = true) : GoodIn big ws := fun w hw => ⟨hm w hw, good_of_word (List.all_eq_true.mp h w hw)⟩
/-! ===== END ===== -/

/-! ===== BEGIN exceptions that leave a method, and their catching by the caller (launches without stack traces) ===== -/
section VXA
/-! The laws vx_back, vx_callV, vx_callS, vx_callSW, vx_throw0, vx_throwS follow proofs of the library, with one case more: JvmDerived/Free/Laws.lean (Back.of_free), Shelf42/LK1.lean (callV, callS), Shelf/KitTraced.lean (throwNew0V, throwNewS). -/
/-- where a method has thrown q: the class by its name, the cell, what was written, the world -/
def vx_T (XC : String → State → State → Prop) (st : State) (q : Addr) (t : State) (mc ms : Nat) (free : Addr → Prop) : Prop :=
  ∃ (E : String) (ce : Cell) (L : List Loc), XC E st t ∧ t.heap[q]? = some ce ∧ ce.vm = .none ∧ st.vm.findClass E = some ce.cls ∧ st.WarmedH t.vm ∧ st.sameButNew ({ t with vm := st.vm } : State) L mc ms ∧ ∀ z ∈ L, free z.base
def vx_Q (Qc : Array Value → State → Outcome → State → Prop) (XC : String → State → State → Prop) (mc ms : Nat) (free : Addr → Prop) : Array Value → State → Outcome → State → Prop := fun a st o t =>
  (Qc a st o t ∧ ∃ L, FrameEnd st o t L mc ms ∧ ∀ q ∈ L, free q.base) ∨ ∃ q, o = .threw q ∧ vx_T XC st q t mc ms free
/-- a callee that returns or throws -/
def vx_Met (l : Launch) (y : MethodName) (ws : List Cond) (rm : Room) (Pc : Array Value → State → Prop) (Qc : Array Value → State → Outcome → State → Prop) (XC : String → State → State → Prop) (mc ms : Nat) (free : Addr → Prop) : Prop :=
  MetFree l y (headSpec ws rm) Pc (fun _ _ _ _ _ => True) (vx_Q Qc XC mc ms free)
def vx_Post (XC : String → State → State → Prop) (mc ms : Nat) (free : Addr → Prop) : Pt → Array Value → Addr → Pt → Prop := fun A a q B =>
  ∃ (g : JFrame) (mk : MethodId) (t : State) (L : List Loc) (E : String) (ce : Cell), B.U.heap = t.heap ∧ B.U.vm = t.vm ∧ XC E (A.U.calling g mk a) t ∧ t.heap[q]? = some ce ∧ ce.vm = .none ∧ A.U.vm.findClass E = some ce.cls ∧ B.locs = A.locs ++ L ∧ (∀ z ∈ L, free z.base) ∧ B.cells = A.cells + mc ∧ B.slots = A.slots + ms
def vx_Back (l : Launch) (R : Room) (p : Program) (e : Env) (below : List Frame) (s : State) (sargs : Array Value) (y : MethodName) (len W9 : Nat)
    (Pre : Pt → Array Value → Prop) (Post : Pt → Array Value → Option Value → Pt → Prop) (PostX : Pt → Array Value → Addr → Pt → Prop) : Prop :=
  ∀ (m : MethodId) (meth : Method) (c : Code) (A : Pt) (g : JFrame) (ig : Instr) (mk : MethodId) (a : Array Value),
    Stand p l e R s m sargs below meth c A.U A.locs A.cells A.slots → g.method = m → g.locals.size = c.maxLocals → decode c.code g.pc = .ok (ig, len) →
    2 * g.monitorRoom + (g.stack.map fun v => v.category).sum ≤ W9 → A.U.methodNamed? y = some mk → Pre A a →
    (∃ (v : Option Value) (B : Pt), Stand p l e R s m sargs below meth c B.U B.locs B.cells B.slots ∧ Post A a v B ∧
      Steps p.tables e below (doInvoke e (A.U.setTop g) [] mk a).1 (B.U.setTop { g with pc := g.pc + len, stack := v.toList ++ g.stack })) ∨
    (∃ (q : Addr) (B : Pt), Stand p l e R s m sargs below meth c B.U B.locs B.cells B.slots ∧ PostX A a q B ∧
      Steps p.tables e below (doInvoke e (A.U.setTop g) [] mk a).1 ((B.U.setTop g).pushFrame (.throwing q)))
section Payer
variable {l : Launch} {R : Room} {p : Program} {e : Env} {below : List Frame} {s : State} {sargs : Array Value} {y : MethodName} {len W9 : Nat}
theorem vx_back {ws : List Cond} {rm : Room} {Pc : Array Value → State → Prop} {Qc : Array Value → State → Outcome → State → Prop} {XC : String → State → State → Prop} {mc ms : Nat} {free : Addr → Prop} {bytes : ByteArray} {maxL : Nat} {ret : Option FieldType}
    (hM : vx_Met l y ws rm Pc Qc XC mc ms free) (hblind : FrameBlind Pc) (hrc : rm.cells = mc) (hrs : rm.slots = ms)
    (hframes : rm.frames + 1 ≤ R.frames) (hlocals : W9 + (maxL + 11) + rm.locals ≤ R.locals)
    (hws : ∀ w ∈ ws, ∀ a' U, s.WarmedH U.vm → w.before a' U = true) (hcode : Cond.code y bytes maxL ret ∈ ws) (hinit : ∀ a' U, s.WarmedH U.vm → (Cond.initialized y.cls).before a' U = true) :
    vx_Back l R p e below s sargs y len W9 (PreOf R mc ms Pc) (PostOf Qc mc ms free) (vx_Post XC mc ms free) := by
  intro m meth c A g ig mk a X hg hsize hdg hW hn hp
  have h1 : (headSpec ws rm).pre.before a A.U = true := atoms_intro fun w hw => hws w hw _ _ X.warmed
  have h2 : (Cond.code y bytes maxL ret).before a A.U = true := hws _ hcode _ _ X.warmed
  have h3 : (Cond.initialized y.cls).before a A.U = true := hinit _ _ X.warmed
  have h4 : A.cells + (headSpec ws rm).room.cells ≤ R.cells := by rw [show (headSpec ws rm).room.cells = mc from hrc]; exact hp.1
  have h5 : A.slots + (headSpec ws rm).room.slots ≤ R.slots := by rw [show (headSpec ws rm).room.slots = ms from hrs]; exact hp.2.1
  have hPc : Pc a (A.U.calling g mk a) := hblind _ _ _ _ hp.2.2
  obtain ⟨U, Ls, c0, s0⟩ := A
  dsimp only [Pt.U, Pt.locs, Pt.cells, Pt.slots] at h1 h2 h3 h4 h5 X hn hPc ⊢
  obtain ⟨methY, cY, hmY, hcY, -, hlY, -, -, -, -⟩ := Cond.code_spec hn h2
  obtain ⟨kY, hkY, -⟩ := className_of_methodNamed hn
  have hinitY : kY.init = .initialized := Cond.initialized_spec (findClass_of_methodNamed hn) hkY h3
  have h : At U g.method c below := by rw [hg]; exact X.here
  have hlocals9 : W9 + (maxL + 11) + (headSpec ws rm).room.locals ≤ R.locals := hlocals
  have happ : (headSpec ws rm).appliesLoose y e.platform (U.calling g mk a) = true :=
    Spec.appliesLoose_calling (g := g) h hdg hn hkY hinitY
      (X.room_calling (g := g) (R' := (headSpec ws rm).room) hsize hmY hcY hframes (by rw [hlY]; omega) h4 h5) h1
  obtain ⟨mid, hmid⟩ := h.above
  have hfr : (U.setTop g).frames = (.java g :: mid) ++ below := by rw [State.frames_setTop' g h.top, hmid]; rfl
  obtain ⟨o, s₂, hsteps, -, hend, hq⟩ := Steps.callFree hM p X.admits X.cas X.clock (acts := []) hfr happ hPc trivial
  have hq' : vx_Q Qc XC mc ms free a (U.calling g mk a) o s₂ := hq
  rw [State.frames_setTop' g h.top] at hend
  obtain ⟨g₀, hg0⟩ := Option.isSome_iff_exists.mp h.top
  obtain ⟨r, hr⟩ := State.topJava?_eq_some.mp hg0
  have hr' : (({ U with heap := s₂.heap, slotsUsed := s₂.slotsUsed } : State).setVm s₂.vm).frames = .java g₀ :: r := hr
  rcases hq' with ⟨hqc, L, hfe, hL⟩ | ⟨q, rfl, E, ce, L, hx, hce, hcv, hcl, hW₂, hsm, hL⟩
  · obtain ⟨⟨v, rfl⟩, hW₂, e2, q2, q3, q4, q5, q6⟩ := id hfe
    have e3 : s₂ = ({ (U.calling g mk a).setFrames s₂.frames with heap := s₂.heap, slotsUsed := s₂.slotsUsed } : State).setVm s₂.vm := by
      have : s₂ = ({ s₂ with vm := (U.calling g mk a).vm } : State).setVm s₂.vm := rfl
      rw [e2] at this
      exact this
    obtain ⟨c₂, i₂, len₂, hc₂, hd₂, hf₂⟩ := hend
    have hW' : U.WarmedH s₂.vm := hW₂
    have hcc : c₂ = c := by
      have h1 : s₂.code? g.method = U.code? g.method := by
        rw [State.code?_eq, State.code?_eq, hW'.alike.method?]
      exact Option.some.inj (hc₂.symm.trans (h1.trans h.code))
    subst hcc
    have hlen : len₂ = len := by rw [hdg] at hd₂; cases hd₂; rfl
    subst hlen
    have hs₂ : s₂ = (({ U with heap := s₂.heap, slotsUsed := s₂.slotsUsed } : State).setVm s₂.vm).setTop { g with pc := g.pc + len₂, stack := v.toList ++ g.stack } := by
      refine e3.trans ?_
      rw [hf₂, State.calling_eq h.top, State.setFrames_setFrames, State.setTop_of_frames _ hr', hr]
      rfl
    have hsame : U.sameButNew ({ U with heap := s₂.heap, slotsUsed := s₂.slotsUsed } : State) L mc ms := by
      refine ⟨?_, q2, q3, q4, q5, q6⟩
      obtain ⟨t, ht, -⟩ := State.frames_cons hr
      show ({ U with heap := s₂.heap, slotsUsed := s₂.slotsUsed } : State) = { U.setFrames U.frames with heap := s₂.heap, slotsUsed := s₂.slotsUsed }
      rw [State.setFrames_self ht]
    subst hg
    refine Or.inl ⟨v, ⟨(({ U with heap := s₂.heap, slotsUsed := s₂.slotsUsed } : State).setVm s₂.vm), Ls ++ L, c0 + mc, s0 + ms⟩,
      ⟨X.admits, X.cas, X.clock, X.frames, X.room, X.hears, X.method, X.code, (X.here.setHeapUsed s₂.heap s₂.slotsUsed).setVm hW'.alike, X.tail, State.WarmedH.trans X.warmed hW', X.limits, X.bytes, X.same.trans (hsame.setVm s.vm)⟩,
      ⟨g, mk, s₂, L, rfl, rfl, hqc, rfl, hL, rfl, rfl⟩, ?_⟩
    show Steps p.tables e below _ ((({ U with heap := s₂.heap, slotsUsed := s₂.slotsUsed } : State).setVm s₂.vm).setTop { g with pc := g.pc + len₂, stack := v.toList ++ g.stack })
    rw [← hs₂]
    exact hsteps
  · obtain ⟨e2, q2, q3, q4, q5, q6⟩ := id hsm
    have e3 : s₂ = ({ (U.calling g mk a).setFrames s₂.frames with heap := s₂.heap, slotsUsed := s₂.slotsUsed } : State).setVm s₂.vm := by
      have : s₂ = ({ s₂ with vm := (U.calling g mk a).vm } : State).setVm s₂.vm := rfl
      rw [e2] at this
      exact this
    have hf₂ : s₂.frames = .throwing q :: .java g :: U.frames.tail := hend
    have hW' : U.WarmedH s₂.vm := hW₂
    have hs₂ : s₂ = ((({ U with heap := s₂.heap, slotsUsed := s₂.slotsUsed } : State).setVm s₂.vm).setTop g).pushFrame (.throwing q) := by
      refine e3.trans ?_
      rw [hf₂, State.calling_eq h.top, State.setFrames_setFrames, State.pushFrame, State.frames_setTop _ hr', State.setTop_of_frames _ hr', State.setFrames_setFrames, hr]
      rfl
    have hsame : U.sameButNew ({ U with heap := s₂.heap, slotsUsed := s₂.slotsUsed } : State) L mc ms := by
      refine ⟨?_, q2, q3, q4, q5, q6⟩
      obtain ⟨t, ht, -⟩ := State.frames_cons hr
      show ({ U with heap := s₂.heap, slotsUsed := s₂.slotsUsed } : State) = { U.setFrames U.frames with heap := s₂.heap, slotsUsed := s₂.slotsUsed }
      rw [State.setFrames_self ht]
    subst hg
    refine Or.inr ⟨q, ⟨(({ U with heap := s₂.heap, slotsUsed := s₂.slotsUsed } : State).setVm s₂.vm), Ls ++ L, c0 + mc, s0 + ms⟩,
      ⟨X.admits, X.cas, X.clock, X.frames, X.room, X.hears, X.method, X.code, (X.here.setHeapUsed s₂.heap s₂.slotsUsed).setVm hW'.alike, X.tail, State.WarmedH.trans X.warmed hW', X.limits, X.bytes, X.same.trans (hsame.setVm s.vm)⟩,
      ⟨g, mk, s₂, L, E, ce, rfl, rfl, hx, hce, hcv, hcl, rfl, hL, rfl, rfl⟩, ?_⟩
    show Steps p.tables e below _ (((({ U with heap := s₂.heap, slotsUsed := s₂.slotsUsed } : State).setVm s₂.vm).setTop g).pushFrame (.throwing q))
    rw [← hs₂]
    exact hsteps
end Payer
section Calls
variable {p : Program} {l : Launch} {e : Env} {R : Room} {s : State} {m : MethodId} {args : Array Value} {below : List Frame} {meth : Method} {c : Code} {T : State} {locs : List Loc} {cells slots : Nat}
theorem vx_callV (X : Stand p l e R s m args below meth c T locs cells slots) (hexec : p.tables.exec = Jvm.exec) {own C : String} {index : Nat} {y : MethodName} {bytes : ByteArray} {maxL : Nat} {ret : Option FieldType}
    (hown : s.vm.findClass own = some m.cls) (hlink : (Cond.methodLink own index y).before args s = true) (hinst : (Cond.instanceMethod y).before args s = true) (hsel : (Cond.selects C y y).before args s = true)
    (hcode : (Cond.code y bytes maxL ret).before args s = true) (hy : y.cls ≠ "java/lang/invoke/MethodHandle" ∧ y.cls ≠ "java/lang/invoke/VarHandle")
    {W9 : Nat} {Pre : Pt → Array Value → Prop} {Post : Pt → Array Value → Option Value → Pt → Prop} {PostX : Pt → Array Value → Addr → Pt → Prop} (hK : vx_Back l R p e below s args y 3 W9 Pre Post PostX)
    {b : Addr} {cellB : Cell} (hcell : T.heap[b]? = some cellB) (hobj : cellB.vm.isStatics = false) (hcls : s.vm.findClass C = some cellB.cls)
    {g : JFrame} (hg : g.method = m) (hsize : g.locals.size = c.maxLocals) {argsL rest : List Value} (hlen : ∀ sig, parseMethodDescriptor y.desc = some sig → argsL.length = sig.parameters.length)
    (hstack : g.stack = argsL.reverse ++ .ref b :: rest) (hW : 2 * g.monitorRoom + (rest.map fun v => v.category).sum ≤ W9) (hdg : decode c.code g.pc = .ok (.invokevirtual index, 3))
    (hpre : ∀ vm₁, s.WarmedH vm₁ → Pre ⟨T.setVm vm₁, locs, cells, slots⟩ (Value.ref b :: argsL).toArray) :
    (∃ (v : Option Value) (vm₁ : Vm) (B : Pt), s.WarmedH vm₁ ∧ Stand p l e R s m args below meth c B.U B.locs B.cells B.slots ∧ Post ⟨T.setVm vm₁, locs, cells, slots⟩ (Value.ref b :: argsL).toArray v B ∧
      ∀ target, Steps p.tables e below (B.U.setTop { g with pc := g.pc + 3, stack := v.toList ++ rest }) target → Steps p.tables e below (T.setTop g) target) ∨
    (∃ (q : Addr) (vm₁ : Vm) (B : Pt), s.WarmedH vm₁ ∧ Stand p l e R s m args below meth c B.U B.locs B.cells B.slots ∧ PostX ⟨T.setVm vm₁, locs, cells, slots⟩ (Value.ref b :: argsL).toArray q B ∧
      Steps p.tables e below (T.setTop g) ((B.U.setTop { g with stack := rest }).pushFrame (.throwing q))) := by
  obtain ⟨mk, methM, hnamed, hmethM, hstM, habM⟩ := Cond.instanceMethod_spec hinst
  obtain ⟨methM', cM, hmethM', -, -, -, -, -, -, hsigM⟩ := Cond.code_spec hnamed hcode
  cases hmethM.symm.trans hmethM'
  obtain ⟨c2, r2, m2, q1, q2, q3, q4, kP, hkP, hkPi⟩ := Cond.selects_spec hsel
  cases hcls.symm.trans q1
  cases (State.methodFound?_of_named hnamed hy).symm.trans q2
  cases hnamed.symm.trans q3
  have hselP : selectMethod e.platform s.vm cellB.cls mk = .method mk := by rw [Launch.admits_selectMethod X.admits]; exact q4
  obtain ⟨vm₁, X₁, hstep₁⟩ := X.invokevirtual hexec hown hlink hnamed hmethM hstM hkP hkPi hy (a := b) (cell := cellB) hcell
    (fun z h => by rw [h] at hobj; cases hobj) hselP hmethM habM hkP hkPi (g := g) hg (argsL := argsL) (rest := rest) (hlen _ hsigM) hstack hdg
  rcases hK m meth c ⟨T.setVm vm₁, locs, cells, slots⟩ { g with stack := rest } (.invokevirtual index) mk (Value.ref b :: argsL).toArray X₁ hg hsize hdg hW (X₁.named hnamed) (hpre vm₁ X₁.warmed) with ⟨v, B, X', hpost, hsteps⟩ | ⟨q, B, X', hpost, hsteps⟩
  · exact Or.inl ⟨v, vm₁, B, X₁.warmed, X', hpost, fun target h => hstep₁ _ fun acts => by rw [doInvoke_state]; exact hsteps.trans h⟩
  · exact Or.inr ⟨q, vm₁, B, X₁.warmed, X', hpost, hstep₁ _ fun acts => by rw [doInvoke_state]; exact hsteps⟩
theorem vx_callS (X : Stand p l e R s m args below meth c T locs cells slots) (hexec : p.tables.exec = Jvm.exec) {own : String} {index : Nat} {y : MethodName} {bytes : ByteArray} {maxL : Nat} {ret : Option FieldType}
    (hown : s.vm.findClass own = some m.cls) (hlink : (Cond.methodLink own index y).before args s = true) (hstat : (Cond.static y).before args s = true) (hinit : (Cond.initialized y.cls).before args s = true)
    (hcode : (Cond.code y bytes maxL ret).before args s = true) (hy : y.cls ≠ "java/lang/invoke/MethodHandle" ∧ y.cls ≠ "java/lang/invoke/VarHandle")
    {W9 : Nat} {Pre : Pt → Array Value → Prop} {Post : Pt → Array Value → Option Value → Pt → Prop} {PostX : Pt → Array Value → Addr → Pt → Prop} (hK : vx_Back l R p e below s args y 3 W9 Pre Post PostX)
    {g : JFrame} (hg : g.method = m) (hsize : g.locals.size = c.maxLocals) {argsL rest : List Value} (hlen : ∀ sig, parseMethodDescriptor y.desc = some sig → argsL.length = sig.parameters.length)
    (hstack : g.stack = argsL.reverse ++ rest) (hW : 2 * g.monitorRoom + (rest.map fun v => v.category).sum ≤ W9) (hdg : decode c.code g.pc = .ok (.invokestatic index, 3))
    (hpre : ∀ vm₁, s.WarmedH vm₁ → Pre ⟨T.setVm vm₁, locs, cells, slots⟩ argsL.toArray) :
    (∃ (v : Option Value) (vm₁ : Vm) (B : Pt), s.WarmedH vm₁ ∧ Stand p l e R s m args below meth c B.U B.locs B.cells B.slots ∧ Post ⟨T.setVm vm₁, locs, cells, slots⟩ argsL.toArray v B ∧
      ∀ target, Steps p.tables e below (B.U.setTop { g with pc := g.pc + 3, stack := v.toList ++ rest }) target → Steps p.tables e below (T.setTop g) target) ∨
    (∃ (q : Addr) (vm₁ : Vm) (B : Pt), s.WarmedH vm₁ ∧ Stand p l e R s m args below meth c B.U B.locs B.cells B.slots ∧ PostX ⟨T.setVm vm₁, locs, cells, slots⟩ argsL.toArray q B ∧
      Steps p.tables e below (T.setTop g) ((B.U.setTop { g with stack := rest }).pushFrame (.throwing q))) := by
  obtain ⟨mk, hnamed⟩ := Cond.code_named hcode
  obtain ⟨methM, cM, hmethM, -, -, -, -, -, -, hsigM⟩ := Cond.code_spec hnamed hcode
  have hstatic : methM.isStatic = true := Cond.static_spec hnamed hmethM hstat
  obtain ⟨kP, hkP, -⟩ := className_of_methodNamed hnamed
  have hinitP : kP.init = .initialized := Cond.initialized_spec (findClass_of_methodNamed hnamed) hkP hinit
  obtain ⟨vm₁, X₁, hstep₁⟩ := X.invokestatic hexec hown hlink hnamed hmethM hstatic hkP hinitP hy (g := g) hg (argsL := argsL) (rest := rest) (hlen _ hsigM) hstack hdg
  rcases hK m meth c ⟨T.setVm vm₁, locs, cells, slots⟩ { g with stack := rest } (.invokestatic index) mk argsL.toArray X₁ hg hsize hdg hW (X₁.named hnamed) (hpre vm₁ X₁.warmed) with ⟨v, B, X', hpost, hsteps⟩ | ⟨q, B, X', hpost, hsteps⟩
  · exact Or.inl ⟨v, vm₁, B, X₁.warmed, X', hpost, fun target h => hstep₁ _ fun acts => by rw [doInvoke_state]; exact hsteps.trans h⟩
  · exact Or.inr ⟨q, vm₁, B, X₁.warmed, X', hpost, hstep₁ _ fun acts => by rw [doInvoke_state]; exact hsteps⟩
end Calls
theorem vx_cls {s : State} {T : State} {vm₁ : Vm} {E : String} {k : ClassId} (hW : s.WarmedH vm₁) (h : (T.setVm vm₁).vm.findClass E = some k) : s.vm.findClass E = some k := by
  have h1 : vm₁.findClass E = some k := h
  rw [hW.alike.findClass] at h1
  exact h1
/-- the method's frame g, with q thrown over it -/
def vx_W (p : Program) (l : Launch) (e : Env) (R : Room) (s : State) (m : MethodId) (args : Array Value) (below : List Frame) (meth : Method) (c : Code) (H : Heap) (locs : List Loc) (cells slots : Nat) (Q : State → Prop) (g : JFrame) (q : Addr) : Prop :=
  ∀ T : State, T.heap = H → Stand p l e R s m args below meth c T locs cells slots → ∃ t, Steps p.tables e below ((T.setTop g).pushFrame (.throwing q)) t ∧ Q t
def vx_Run (p : Program) (l : Launch) (e : Env) (R : Room) (s : State) (m : MethodId) (args : Array Value) (below : List Frame) (meth : Method) (c : Code) (H : Heap) (locs : List Loc) (cells slots mc ms : Nat) (g : JFrame) (rest : List Value) (Qa : State → Outcome → State → Prop) (XC : String → State → State → Prop) (free : Addr → Prop) : Prop :=
  ∀ T : State, T.heap = H → Stand p l e R s m args below meth c T locs cells slots →
    (∃ (v : Option Value) (st₀ t T' : State) (L : List Loc), st₀.heap = H ∧ Stand p l e R s m args below meth c T' (locs ++ L) (cells + mc) (slots + ms) ∧ (∀ q ∈ L, free q.base) ∧ T'.heap = t.heap ∧ T'.vm = t.vm ∧ Qa st₀ (.returned v) t ∧
      Goes p e below T g T' { g with pc := g.pc + 3, stack := v.toList ++ rest }) ∨
    (∃ (q : Addr) (st₀ t T' : State) (L : List Loc) (E : String) (ce : Cell), st₀.heap = H ∧ Stand p l e R s m args below meth c T' (locs ++ L) (cells + mc) (slots + ms) ∧ (∀ z ∈ L, free z.base) ∧ T'.heap = t.heap ∧ T'.vm = t.vm ∧ XC E st₀ t ∧ t.heap[q]? = some ce ∧ ce.vm = .none ∧ s.vm.findClass E = some ce.cls ∧
      Steps p.tables e below (T.setTop g) ((T'.setTop { g with stack := rest }).pushFrame (.throwing q)))
def vx_X {S : Type} (px : S → Prop) (B : String → S → State → Prop) (A : Nat → Prop) : String → State → State → Prop := fun E st t => ∃ u : S, px u ∧ B E u t ∧ va_F A st t
section Runs
variable {p : Program} {l : Launch} {e : Env} {R : Room} {s : State} {m : MethodId} {args : Array Value} {below : List Frame} {meth : Method} {c : Code} {H : Heap} {locs : List Loc} {cells slots : Nat}
variable {y : MethodName} {bytes cc : ByteArray} {maxL nL mc ms n index : Nat} {ret : Option FieldType} {ws : List Cond} {rm : Room} {Pc : Array Value → State → Prop} {Qc : Array Value → State → Outcome → State → Prop} {XC : String → State → State → Prop} {free : Addr → Prop} {Ts : List Cond} {own C : String} {b : Addr} {As rest : List Value} {g : JFrame}
theorem vx_callBack (cb : CallB R s args own index y bytes maxL ret ws rm mc ms n) (hM : vx_Met l y ws rm Pc Qc XC mc ms free) (hbl : FrameBlind Pc) : vx_Back l R p e below s args y 3 8 (PreOf R mc ms Pc) (PostOf Qc mc ms free) (vx_Post XC mc ms free) := by
  obtain ⟨hrc, hrs, hfr, hlo, hws, hcw, -, hini, -⟩ := cb
  exact vx_back (bytes := bytes) (maxL := maxL) (ret := ret) hM hbl hrc hrs hfr hlo hws hcw (fun a' U hW => word_at hW (Or.inl (by first | rfl | simp [Cond.onTables, Cond.keeps, Cond.steady])) hini)
theorem vx_runV (S : CallFix p m c cc nL s args Ts own) (hM : vx_Met l y ws rm Pc Qc XC mc ms free) (cw : CallW R s args own C index y bytes maxL ret ws rm mc ms n) (hp : PreV s H C b Pc As)
    (hg : g.method = m) (hn : As.length = n) (hsize : g.locals.size = nL) (hstack : g.stack = As.reverse ++ .ref b :: rest) (hW : 2 * g.monitorRoom + (rest.map fun v => v.category).sum ≤ 8) (hdg : decode cc g.pc = .ok (.invokevirtual index, 3)) (hf : cells + mc ≤ R.cells ∧ slots + ms ≤ R.slots) :
    vx_Run p l e R s m args below meth c H locs cells slots mc ms g rest (Qc (Value.ref b :: As).toArray) XC free := by
  have hK : vx_Back l R p e below s args y 3 8 (PreOf R mc ms Pc) (PostOf Qc mc ms free) (vx_Post XC mc ms free) := vx_callBack cw.1 hM hp.1
  obtain ⟨⟨-, -, -, -, -, -, hcode, -, hy, hlen, hl⟩, hin, hse⟩ := cw
  obtain ⟨hx, hb, hml, ho, -⟩ := S
  obtain ⟨-, ⟨cellB, hcB, hoB, hclB⟩, hPc⟩ := hp
  intro T hT X
  rcases vx_callV X hx (C := C) (bytes := bytes) (maxL := maxL) (ret := ret) ho hl hin hse hcode hy hK (by rw [hT]; exact hcB) hoB hclB hg (hsize.trans hml.symm) (argsL := As) (rest := rest) (fun sig h => hn.trans (hlen sig h)) hstack hW (by rw [hb]; exact hdg)
    (fun vm₁ hW₁ => ⟨hf.1, hf.2, hPc (T.setVm vm₁) hT hW₁⟩) with ⟨v, vm₁, ⟨U', l2, c2, s2⟩, hW₁, X', ⟨g', mk, t, L, e1, e2, hq, h1, hL, h2, h3⟩, st⟩ | ⟨q, vm₁, ⟨U', l2, c2, s2⟩, hW₁, X', ⟨g', mk, t, L, E, ce, e1, e2, hq, hce, hcv, hcl, h1, hL, h2, h3⟩, st⟩
  · dsimp only [Pt.U, Pt.locs, Pt.cells, Pt.slots] at X' e1 e2 h1 h2 h3 st
    subst h1; subst h2; subst h3
    exact Or.inl ⟨v, (T.setVm vm₁).calling g' mk (Value.ref b :: As).toArray, t, U', L, hT, X', hL, e1, e2, hq, st⟩
  · dsimp only [Pt.U, Pt.locs, Pt.cells, Pt.slots] at X' e1 e2 h1 h2 h3 st hcl
    subst h1; subst h2; subst h3
    exact Or.inr ⟨q, (T.setVm vm₁).calling g' mk (Value.ref b :: As).toArray, t, U', L, E, ce, hT, X', hL, e1, e2, hq, hce, hcv, vx_cls hW₁ hcl, st⟩
theorem vx_runS (S : CallFix p m c cc nL s args Ts own) (hM : vx_Met l y ws rm Pc Qc XC mc ms free) (cw : CallB R s args own index y bytes maxL ret ws rm mc ms n ∧ (Cond.static y).before args s = true) (hp : PreS s H Pc As)
    (hg : g.method = m) (hn : As.length = n) (hsize : g.locals.size = nL) (hstack : g.stack = As.reverse ++ rest) (hW : 2 * g.monitorRoom + (rest.map fun v => v.category).sum ≤ 8) (hdg : decode cc g.pc = .ok (.invokestatic index, 3)) (hf : cells + mc ≤ R.cells ∧ slots + ms ≤ R.slots) :
    vx_Run p l e R s m args below meth c H locs cells slots mc ms g rest (Qc As.toArray) XC free := by
  have hK : vx_Back l R p e below s args y 3 8 (PreOf R mc ms Pc) (PostOf Qc mc ms free) (vx_Post XC mc ms free) := vx_callBack cw.1 hM hp.1
  obtain ⟨⟨-, -, -, -, -, -, hcode, hini, hy, hlen, hl⟩, hstt⟩ := cw
  obtain ⟨hx, hb, hml, ho, -⟩ := S
  intro T hT X
  rcases vx_callS X hx (bytes := bytes) (maxL := maxL) (ret := ret) ho hl hstt hini hcode hy hK hg (hsize.trans hml.symm) (argsL := As) (rest := rest) (fun sig h => hn.trans (hlen sig h)) hstack hW (by rw [hb]; exact hdg)
    (fun vm₁ hW₁ => ⟨hf.1, hf.2, hp.2 (T.setVm vm₁) hT hW₁⟩) with ⟨v, vm₁, ⟨U', l2, c2, s2⟩, hW₁, X', ⟨g', mk, t, L, e1, e2, hq, h1, hL, h2, h3⟩, st⟩ | ⟨q, vm₁, ⟨U', l2, c2, s2⟩, hW₁, X', ⟨g', mk, t, L, E, ce, e1, e2, hq, hce, hcv, hcl, h1, hL, h2, h3⟩, st⟩
  · dsimp only [Pt.U, Pt.locs, Pt.cells, Pt.slots] at X' e1 e2 h1 h2 h3 st
    subst h1; subst h2; subst h3
    exact Or.inl ⟨v, (T.setVm vm₁).calling g' mk As.toArray, t, U', L, hT, X', hL, e1, e2, hq, st⟩
  · dsimp only [Pt.U, Pt.locs, Pt.cells, Pt.slots] at X' e1 e2 h1 h2 h3 st hcl
    subst h1; subst h2; subst h3
    exact Or.inr ⟨q, (T.setVm vm₁).calling g' mk As.toArray, t, U', L, E, ce, hT, X', hL, e1, e2, hq, hce, hcv, vx_cls hW₁ hcl, st⟩
end Runs
section Rows
variable {p : Program} {l : Launch} {e : Env} {R : Room} {s : State} {m : MethodId} {args : Array Value} {below : List Frame} {meth : Method} {c : Code} {H : Heap} {locs : List Loc} {cells slots : Nat} {Q : State → Prop}
variable {mc ms : Nat} {free : Addr → Prop} {A0 A1 : Nat → Prop} {H0 : Heap} {a : Array Value} {pc : Nat} {ls : Array Slot} {st0 rest : List Value}
theorem vx_keep {st₀ t T' : State} {L : List Loc} (h0 : st₀.heap = H) (e1 : T'.heap = t.heap) (hS : va_S A0 H0 H locs) (hA : ∀ q, q < H.size → A1 q → A0 q) (hf : ∀ q, free q → A0 q) (hL : ∀ q ∈ L, free q.base) (hF : va_F A1 st₀ t) :
    H.size ≤ T'.heap.size ∧ (∀ q : Nat, q < H.size → ¬ A1 q → T'.heap[q]? = H[q]?) ∧ va_S A0 H0 T'.heap (locs ++ L) := by
  obtain ⟨hz, hk⟩ := hF
  rw [h0] at hz hk
  exact ⟨by rw [e1]; exact hz, fun q h1 h2 => by rw [e1]; exact hk q h1 h2,
    ⟨Nat.le_trans hS.1 (by rw [e1]; exact hz), fun q h1 h2 => by rw [e1, hk q (Nat.lt_of_lt_of_le h1 hS.1) (fun z => h2 (hA q (Nat.lt_of_lt_of_le h1 hS.1) z))]; exact hS.2.1 q h1 h2, fun q hq => by
      rcases List.mem_append.mp hq with h | h
      · exact hS.2.2 q h
      · exact hf _ (hL q h)⟩⟩
theorem vx_calli {S SX : Type} {post : Int32 → S → Prop} {px : SX → Prop} {B : S → State → Prop} {BX : String → SX → State → Prop} {AX : Nat → Prop} (hr : vx_Run p l e R s m args below meth c H locs cells slots mc ms (F0 m pc ls st0) rest (va_Qi post B A1 a) (vx_X px BX AX) free) (hS : va_S A0 H0 H locs) (hA : ∀ q, q < H.size → A1 q → A0 q) (hf : ∀ q, free q → A0 q) (hAX : ∀ q, q < H.size → AX q → A0 q)
    (kx : ∀ (E : String) (ce : Cell) (q9 : Addr) (u : SX) (t : State) (H1 : Heap) (locs1 : List Loc), t.heap = H1 → s.vm.Alike t.vm → px u → BX E u t → H.size ≤ H1.size → (∀ q : Nat, q < H.size → ¬ AX q → H1[q]? = H[q]?) → va_S A0 H0 H1 locs1 → H1[q9]? = some ce → ce.vm = .none → s.vm.findClass E = some ce.cls → vx_W p l e R s m args below meth c H1 locs1 (cells + mc) (slots + ms) Q (F0 m pc ls rest) q9)
    (kk : ∀ (r : Int32) (u : S) (t : State) (H1 : Heap) (locs1 : List Loc), t.heap = H1 → s.vm.Alike t.vm → post r u → B u t → H.size ≤ H1.size → (∀ q : Nat, q < H.size → ¬ A1 q → H1[q]? = H[q]?) → va_S A0 H0 H1 locs1 → W p l e R s m args below meth c H1 locs1 (cells + mc) (slots + ms) Q (F0 m (pc + 3) ls (.int r :: rest))) : W p l e R s m args below meth c H locs cells slots Q (F0 m pc ls st0) := by
  intro T hT X
  rcases hr T hT X with ⟨v, st₀, t, T', L, h0, X', hL, e1, e2, ⟨⟨r, u, hv, hp, hb⟩, hF⟩, st⟩ | ⟨q, st₀, t, T', L, E, ce, h0, X', hL, e1, e2, ⟨u, hp, hb, hF⟩, hce, hcv, hcl, st⟩
  · cases hv
    obtain ⟨k1, k2, k3⟩ := vx_keep h0 e1 hS hA hf hL hF
    obtain ⟨t2, a1, b1⟩ := kk r u t T'.heap (locs ++ L) e1.symm (by rw [← e2]; exact X'.warmed.alike) hp hb k1 k2 k3 T' rfl X'
    exact ⟨t2, st t2 a1, b1⟩
  · obtain ⟨k1, k2, k3⟩ := vx_keep h0 e1 hS hAX hf hL hF
    obtain ⟨t2, a1, b1⟩ := kx E ce q u t T'.heap (locs ++ L) e1.symm (by rw [← e2]; exact X'.warmed.alike) hp hb k1 k2 k3 (by rw [e1]; exact hce) hcv hcl T' rfl X'
    exact ⟨t2, st.trans a1, b1⟩
theorem vx_calll {S SX : Type} {post : Int64 → S → Prop} {px : SX → Prop} {B : S → State → Prop} {BX : String → SX → State → Prop} {AX : Nat → Prop} (hr : vx_Run p l e R s m args below meth c H locs cells slots mc ms (F0 m pc ls st0) rest (va_Ql post B A1 a) (vx_X px BX AX) free) (hS : va_S A0 H0 H locs) (hA : ∀ q, q < H.size → A1 q → A0 q) (hf : ∀ q, free q → A0 q) (hAX : ∀ q, q < H.size → AX q → A0 q)
    (kx : ∀ (E : String) (ce : Cell) (q9 : Addr) (u : SX) (t : State) (H1 : Heap) (locs1 : List Loc), t.heap = H1 → s.vm.Alike t.vm → px u → BX E u t → H.size ≤ H1.size → (∀ q : Nat, q < H.size → ¬ AX q → H1[q]? = H[q]?) → va_S A0 H0 H1 locs1 → H1[q9]? = some ce → ce.vm = .none → s.vm.findClass E = some ce.cls → vx_W p l e R s m args below meth c H1 locs1 (cells + mc) (slots + ms) Q (F0 m pc ls rest) q9)
    (kk : ∀ (r : Int64) (u : S) (t : State) (H1 : Heap) (locs1 : List Loc), t.heap = H1 → s.vm.Alike t.vm → post r u → B u t → H.size ≤ H1.size → (∀ q : Nat, q < H.size → ¬ A1 q → H1[q]? = H[q]?) → va_S A0 H0 H1 locs1 → W p l e R s m args below meth c H1 locs1 (cells + mc) (slots + ms) Q (F0 m (pc + 3) ls (.long r :: rest))) : W p l e R s m args below meth c H locs cells slots Q (F0 m pc ls st0) := by
  intro T hT X
  rcases hr T hT X with ⟨v, st₀, t, T', L, h0, X', hL, e1, e2, ⟨⟨r, u, hv, hp, hb⟩, hF⟩, st⟩ | ⟨q, st₀, t, T', L, E, ce, h0, X', hL, e1, e2, ⟨u, hp, hb, hF⟩, hce, hcv, hcl, st⟩
  · cases hv
    obtain ⟨k1, k2, k3⟩ := vx_keep h0 e1 hS hA hf hL hF
    obtain ⟨t2, a1, b1⟩ := kk r u t T'.heap (locs ++ L) e1.symm (by rw [← e2]; exact X'.warmed.alike) hp hb k1 k2 k3 T' rfl X'
    exact ⟨t2, st t2 a1, b1⟩
  · obtain ⟨k1, k2, k3⟩ := vx_keep h0 e1 hS hAX hf hL hF
    obtain ⟨t2, a1, b1⟩ := kx E ce q u t T'.heap (locs ++ L) e1.symm (by rw [← e2]; exact X'.warmed.alike) hp hb k1 k2 k3 (by rw [e1]; exact hce) hcv hcl T' rfl X'
    exact ⟨t2, st.trans a1, b1⟩
theorem vx_callf {S SX : Type} {post : UInt32 → S → Prop} {px : SX → Prop} {B : S → State → Prop} {BX : String → SX → State → Prop} {AX : Nat → Prop} (hr : vx_Run p l e R s m args below meth c H locs cells slots mc ms (F0 m pc ls st0) rest (va_Qf post B A1 a) (vx_X px BX AX) free) (hS : va_S A0 H0 H locs) (hA : ∀ q, q < H.size → A1 q → A0 q) (hf : ∀ q, free q → A0 q) (hAX : ∀ q, q < H.size → AX q → A0 q)
    (kx : ∀ (E : String) (ce : Cell) (q9 : Addr) (u : SX) (t : State) (H1 : Heap) (locs1 : List Loc), t.heap = H1 → s.vm.Alike t.vm → px u → BX E u t → H.size ≤ H1.size → (∀ q : Nat, q < H.size → ¬ AX q → H1[q]? = H[q]?) → va_S A0 H0 H1 locs1 → H1[q9]? = some ce → ce.vm = .none → s.vm.findClass E = some ce.cls → vx_W p l e R s m args below meth c H1 locs1 (cells + mc) (slots + ms) Q (F0 m pc ls rest) q9)
    (kk : ∀ (r : UInt32) (u : S) (t : State) (H1 : Heap) (locs1 : List Loc), t.heap = H1 → s.vm.Alike t.vm → post r u → B u t → H.size ≤ H1.size → (∀ q : Nat, q < H.size → ¬ A1 q → H1[q]? = H[q]?) → va_S A0 H0 H1 locs1 → W p l e R s m args below meth c H1 locs1 (cells + mc) (slots + ms) Q (F0 m (pc + 3) ls (.float r :: rest))) : W p l e R s m args below meth c H locs cells slots Q (F0 m pc ls st0) := by
  intro T hT X
  rcases hr T hT X with ⟨v, st₀, t, T', L, h0, X', hL, e1, e2, ⟨⟨r, u, hv, hp, hb⟩, hF⟩, st⟩ | ⟨q, st₀, t, T', L, E, ce, h0, X', hL, e1, e2, ⟨u, hp, hb, hF⟩, hce, hcv, hcl, st⟩
  · cases hv
    obtain ⟨k1, k2, k3⟩ := vx_keep h0 e1 hS hA hf hL hF
    obtain ⟨t2, a1, b1⟩ := kk r u t T'.heap (locs ++ L) e1.symm (by rw [← e2]; exact X'.warmed.alike) hp hb k1 k2 k3 T' rfl X'
    exact ⟨t2, st t2 a1, b1⟩
  · obtain ⟨k1, k2, k3⟩ := vx_keep h0 e1 hS hAX hf hL hF
    obtain ⟨t2, a1, b1⟩ := kx E ce q u t T'.heap (locs ++ L) e1.symm (by rw [← e2]; exact X'.warmed.alike) hp hb k1 k2 k3 (by rw [e1]; exact hce) hcv hcl T' rfl X'
    exact ⟨t2, st.trans a1, b1⟩
theorem vx_calld {S SX : Type} {post : UInt64 → S → Prop} {px : SX → Prop} {B : S → State → Prop} {BX : String → SX → State → Prop} {AX : Nat → Prop} (hr : vx_Run p l e R s m args below meth c H locs cells slots mc ms (F0 m pc ls st0) rest (va_Qd post B A1 a) (vx_X px BX AX) free) (hS : va_S A0 H0 H locs) (hA : ∀ q, q < H.size → A1 q → A0 q) (hf : ∀ q, free q → A0 q) (hAX : ∀ q, q < H.size → AX q → A0 q)
    (kx : ∀ (E : String) (ce : Cell) (q9 : Addr) (u : SX) (t : State) (H1 : Heap) (locs1 : List Loc), t.heap = H1 → s.vm.Alike t.vm → px u → BX E u t → H.size ≤ H1.size → (∀ q : Nat, q < H.size → ¬ AX q → H1[q]? = H[q]?) → va_S A0 H0 H1 locs1 → H1[q9]? = some ce → ce.vm = .none → s.vm.findClass E = some ce.cls → vx_W p l e R s m args below meth c H1 locs1 (cells + mc) (slots + ms) Q (F0 m pc ls rest) q9)
    (kk : ∀ (r : UInt64) (u : S) (t : State) (H1 : Heap) (locs1 : List Loc), t.heap = H1 → s.vm.Alike t.vm → post r u → B u t → H.size ≤ H1.size → (∀ q : Nat, q < H.size → ¬ A1 q → H1[q]? = H[q]?) → va_S A0 H0 H1 locs1 → W p l e R s m args below meth c H1 locs1 (cells + mc) (slots + ms) Q (F0 m (pc + 3) ls (.double r :: rest))) : W p l e R s m args below meth c H locs cells slots Q (F0 m pc ls st0) := by
  intro T hT X
  rcases hr T hT X with ⟨v, st₀, t, T', L, h0, X', hL, e1, e2, ⟨⟨r, u, hv, hp, hb⟩, hF⟩, st⟩ | ⟨q, st₀, t, T', L, E, ce, h0, X', hL, e1, e2, ⟨u, hp, hb, hF⟩, hce, hcv, hcl, st⟩
  · cases hv
    obtain ⟨k1, k2, k3⟩ := vx_keep h0 e1 hS hA hf hL hF
    obtain ⟨t2, a1, b1⟩ := kk r u t T'.heap (locs ++ L) e1.symm (by rw [← e2]; exact X'.warmed.alike) hp hb k1 k2 k3 T' rfl X'
    exact ⟨t2, st t2 a1, b1⟩
  · obtain ⟨k1, k2, k3⟩ := vx_keep h0 e1 hS hAX hf hL hF
    obtain ⟨t2, a1, b1⟩ := kx E ce q u t T'.heap (locs ++ L) e1.symm (by rw [← e2]; exact X'.warmed.alike) hp hb k1 k2 k3 (by rw [e1]; exact hce) hcv hcl T' rfl X'
    exact ⟨t2, st.trans a1, b1⟩
theorem vx_callv {S SX : Type} {post : S → Prop} {px : SX → Prop} {B : S → State → Prop} {BX : String → SX → State → Prop} {AX : Nat → Prop} (hr : vx_Run p l e R s m args below meth c H locs cells slots mc ms (F0 m pc ls st0) rest (va_Qv post B A1 a) (vx_X px BX AX) free) (hS : va_S A0 H0 H locs) (hA : ∀ q, q < H.size → A1 q → A0 q) (hf : ∀ q, free q → A0 q) (hAX : ∀ q, q < H.size → AX q → A0 q)
    (kx : ∀ (E : String) (ce : Cell) (q9 : Addr) (u : SX) (t : State) (H1 : Heap) (locs1 : List Loc), t.heap = H1 → s.vm.Alike t.vm → px u → BX E u t → H.size ≤ H1.size → (∀ q : Nat, q < H.size → ¬ AX q → H1[q]? = H[q]?) → va_S A0 H0 H1 locs1 → H1[q9]? = some ce → ce.vm = .none → s.vm.findClass E = some ce.cls → vx_W p l e R s m args below meth c H1 locs1 (cells + mc) (slots + ms) Q (F0 m pc ls rest) q9)
    (kk : ∀ (u : S) (t : State) (H1 : Heap) (locs1 : List Loc), t.heap = H1 → s.vm.Alike t.vm → post u → B u t → H.size ≤ H1.size → (∀ q : Nat, q < H.size → ¬ A1 q → H1[q]? = H[q]?) → va_S A0 H0 H1 locs1 → W p l e R s m args below meth c H1 locs1 (cells + mc) (slots + ms) Q (F0 m (pc + 3) ls (rest))) : W p l e R s m args below meth c H locs cells slots Q (F0 m pc ls st0) := by
  intro T hT X
  rcases hr T hT X with ⟨v, st₀, t, T', L, h0, X', hL, e1, e2, ⟨⟨u, hv, hp, hb⟩, hF⟩, st⟩ | ⟨q, st₀, t, T', L, E, ce, h0, X', hL, e1, e2, ⟨u, hp, hb, hF⟩, hce, hcv, hcl, st⟩
  · cases hv
    obtain ⟨k1, k2, k3⟩ := vx_keep h0 e1 hS hA hf hL hF
    obtain ⟨t2, a1, b1⟩ := kk u t T'.heap (locs ++ L) e1.symm (by rw [← e2]; exact X'.warmed.alike) hp hb k1 k2 k3 T' rfl X'
    exact ⟨t2, st t2 a1, b1⟩
  · obtain ⟨k1, k2, k3⟩ := vx_keep h0 e1 hS hAX hf hL hF
    obtain ⟨t2, a1, b1⟩ := kx E ce q u t T'.heap (locs ++ L) e1.symm (by rw [← e2]; exact X'.warmed.alike) hp hb k1 k2 k3 (by rw [e1]; exact hce) hcv hcl T' rfl X'
    exact ⟨t2, st.trans a1, b1⟩
/-- caught by the row x of this method's table; the rows ahead don't take it -/
theorem vx_catch {own name : String} {E : String} {ce : Cell} {q : Addr} (hown : s.vm.findClass own = some m.cls) (pre : List ExceptionTableEntry) (x : ExceptionTableEntry) (suf : List ExceptionTableEntry) (hsplit : c.exceptionTable.toList = pre ++ x :: suf)
    (hpass : ∀ z ∈ pre, covers z pc = false ∨ (z.catchType ≠ 0 ∧ ∃ nm : String, (Cond.classLink own z.catchType nm).before args s = true ∧ va_Nc E nm s)) (hx : covers x pc = true) (h0 : x.catchType ≠ 0)
    (hlink : (Cond.classLink own x.catchType name).before args s = true) (hcast : (Cond.castable E name).before args s = true) (hcell : H[q]? = some ce) (hv : ce.vm = .none) (hcl : s.vm.findClass E = some ce.cls)
    (kk : W p l e R s m args below meth c H locs cells slots Q (F0 m x.handlerPc ls [.ref q])) : vx_W p l e R s m args below meth c H locs cells slots Q (F0 m pc ls rest) q := by
  intro T hT X
  have hpl : e.platform.magicAccessors = ({} : Platform).magicAccessors := by rw [X.admits.platform]
  obtain ⟨c3, c4, hc3, hc4, hasg⟩ := Cond.castable_spec hcast
  cases Option.some.inj (hc3.symm.trans hcl)
  obtain ⟨c5, hc5, hcl5⟩ := Cond.classLink_spec hown hlink e.platform hpl
  cases Option.some.inj (hc4.symm.trans hc5)
  obtain ⟨vm', X', st⟩ := X.thenCaughtThrough q (g := F0 m pc ls rest) rfl (Steps.refl _) (by rw [hT]; exact hcell) (by rw [hv]; rfl) (by obtain ⟨k9, h9, -⟩ := Vm.findClass_spec hcl; exact ⟨k9, h9⟩) pre x suf hsplit
    (fun z hz => by
      rcases hpass z hz with h | ⟨hz0, nm, hl1, hn1⟩
      · exact Or.inl h
      · obtain ⟨c6, hc6, hcl6⟩ := Cond.classLink_spec hown hl1 e.platform hpl
        obtain ⟨a8, b8, h1, h2, h3⟩ := hn1
        cases Option.some.inj (h1.symm.trans hcl)
        cases Option.some.inj (h2.symm.trans hc6)
        exact Or.inr ⟨hz0, _, hcl6, h3⟩) hx (Or.inr ⟨h0, c4, hcl5, hasg⟩)
  obtain ⟨t, a1, b1⟩ := kk (T.setVm vm') hT X'
  exact ⟨t, st.trans a1, b1⟩
end Rows
section Ends
variable {p : Program} {l : Launch} {e : Env} {R : Room} {s : State} {m : MethodId} {args : Array Value} {below : List Frame} {meth : Method} {c : Code} {H : Heap} {locs : List Loc} {cells slots : Nat} {Q : State → Prop}
variable {mc ms : Nat} {free : Addr → Prop} {A0 A1 : Nat → Prop} {H0 : Heap} {a : Array Value} {ls : Array Slot} {st0 rest : List Value}
variable {Qc : Array Value → State → Outcome → State → Prop} {XC : String → State → State → Prop}
/-- what a body that may throw owes at its end -/
def vx_MQ (below : List Frame) (Qc : Array Value → State → Outcome → State → Prop) (XC : String → State → State → Prop) (a : Array Value) (s : State) (mc ms : Nat) (free : Addr → Prop) : State → Prop := fun t =>
  ∃ o, t.status = .running ∧ Ended t below o ∧ vx_Q Qc XC mc ms free a s o t
theorem vx_ret {g : JFrame} {mc ms : Nat} (k : W p l e R s m args below meth c H locs cells slots (MQ below Qc args s mc ms free) g) : W p l e R s m args below meth c H locs cells slots (vx_MQ below Qc XC args s mc ms free) g := by
  intro T hT X
  obtain ⟨t, a1, o, b1, b2, b3, b4⟩ := k T hT X
  exact ⟨t, a1, o, b1, b2, Or.inl ⟨b3, b4⟩⟩
/-- not caught here: it goes on to the caller -/
theorem vx_widen {g : JFrame} {q : Addr} {k n : Nat} (h1 : cells ≤ k) (h2 : slots ≤ n) (kk : vx_W p l e R s m args below meth c H locs k n Q g q) : vx_W p l e R s m args below meth c H locs cells slots Q g q := fun T hT X => kk T hT (stand_widen X h1 h2)
theorem vx_out {pc : Nat} {E : String} {ce : Cell} {q : Addr} {mc ms : Nat} (hout : ∀ x ∈ c.exceptionTable.toList, covers x pc = false) (hlocks : meth.locks = false) (hcell : H[q]? = some ce) (hv : ce.vm = .none) (hcl : s.vm.findClass E = some ce.cls)
    (hx : ∀ t : State, t.heap = H → s.vm.Alike t.vm → XC E s t) (hf : ∀ z ∈ locs, free z.base) (hc : cells ≤ mc) (hs : slots ≤ ms) :
    vx_W p l e R s m args below meth c H locs cells slots (vx_MQ below Qc XC args s mc ms free) (F0 m pc ls rest) q := by
  intro T hT X
  obtain ⟨st1, hrun, hend, hW, hsm⟩ := X.leaveThrown q (g := F0 m pc ls rest) rfl rfl rfl hout hlocks
  have hcell9 : (T.setFrames (.throwing q :: below)).heap[q]? = some ce := by
    show T.heap[q]? = some ce
    rw [hT]; exact hcell
  exact ⟨_, st1, .threw q, hrun, hend, Or.inr ⟨q, rfl, E, ce, locs, hx _ hT hW.alike, hcell9, hv, hcl, hW, hsm.mono hc hs, hf⟩⟩
theorem vx_frame {U : State} {k n : Nat} (h : s.sameButNew ({ U with vm := s.vm } : State) locs k n) : s.heap.size ≤ U.heap.size ∧ ∀ q : Nat, q < s.heap.size → (∀ z ∈ locs, z.base ≠ q) → U.heap[q]? = s.heap[q]? := by
  obtain ⟨-, h2, -, -, -, h6⟩ := h
  refine ⟨h2, fun q hq hz => ?_⟩
  obtain ⟨c9, e1, e2, e3, e4⟩ := h6 q _ (Array.getElem?_eq_getElem hq)
  have hs : c9.slots = (s.heap[q]).slots := Array.ext_getElem? fun i => e4 i fun hm => hz _ hm rfl
  have h9 : c9 = s.heap[q] := by
    rw [hs] at e2
    exact e2
  have e5 : U.heap[q]? = some c9 := e1
  rw [e5, h9, Array.getElem?_eq_getElem hq]
/-- the words of a throw but the four that speak of the heap -/
def vx_no (w : Cond) : Bool := decide (w ≠ .isRef (.static Bundle.tN "UNASSIGNED_STACK" Bundle.steD)) && decide (w ≠ .isRef (.static Bundle.tN "SUPPRESSED_SENTINEL" Bundle.listD)) && decide (w ≠ .laysStatic Bundle.tN "UNASSIGNED_STACK" Bundle.steD) && decide (w ≠ .laysStatic Bundle.tN "SUPPRESSED_SENTINEL" Bundle.listD)
def vx_at0 (own : String) (ic : Nat) (X : String) (names : List String) : List Cond := (Bundle.ownAtoms0 own ic X names).filter vx_no
def vx_atS (own : String) (ic : Nat) (X : String) (names : List String) : List Cond := (Bundle.ownAtoms own ic X names).filter vx_no
/-- a word that the tables alone decide, or a good one -/
def vx_ot (w : Cond) : Bool := w.onTables || goodWord w
theorem vx_ot_at {args a' : Array Value} {s U : State} {w : Cond} (hW : s.WarmedH U.vm) (hvm : s.vm = U.vm) (hg : vx_ot w = true) (h : w.before args s = true) : w.before a' U = true := by
  simp only [vx_ot, Bool.or_eq_true] at hg
  rcases hg with hg | hg
  · exact va_tabs hg hvm h
  · exact word_at hW (good_of_word hg) h
/-- a list's words: the good ones out of the method's own list, the others by premises of their own -/
theorem vx_hat {args : Array Value} {s : State} {L B : List Cond} (h1 : ∀ w ∈ L.filter goodWord, w.before args s = true) (h2 : ∀ w ∈ L.filter (fun w => !goodWord w), w ∈ B) (h3 : ∀ w ∈ B, w.before args s = true) : ∀ w ∈ L, w.before args s = true := by
  intro w hw
  by_cases g : goodWord w = true
  · exact h1 w (List.mem_filter.mpr ⟨hw, g⟩)
  · refine h3 w (h2 w (List.mem_filter.mpr ⟨hw, ?_⟩))
    show (!goodWord w) = true
    cases hgw : goodWord w
    · rfl
    · exact absurd hgw g
theorem vx_c {args : Array Value} {s : State} {w : Cond} {B : List Cond} (h : w.before args s = true) (t : ∀ w ∈ B, w.before args s = true) : ∀ w' ∈ w :: B, w'.before args s = true := fun w' h' => (List.mem_cons.mp h').elim (fun e => by rw [e]; exact h) (t w')
theorem vx_n {args : Array Value} {s : State} : ∀ w ∈ ([] : List Cond), w.before args s = true := fun _ h => nomatch h
theorem vx_own {args : Array Value} {s : State} {L : List Cond} (h1 : ∀ w ∈ L.filter vx_no, w.before args s = true)
    (hU : (Cond.isRef (.static Bundle.tN "UNASSIGNED_STACK" Bundle.steD)).before args s = true) (hN : (Cond.isRef (.static Bundle.tN "SUPPRESSED_SENTINEL" Bundle.listD)).before args s = true)
    (lU : (Cond.laysStatic Bundle.tN "UNASSIGNED_STACK" Bundle.steD).before args s = true) (lN : (Cond.laysStatic Bundle.tN "SUPPRESSED_SENTINEL" Bundle.listD).before args s = true) : ∀ w ∈ L, w.before args s = true := by
  intro w hw
  by_cases e1 : w = .isRef (.static Bundle.tN "UNASSIGNED_STACK" Bundle.steD)
  · rw [e1]; exact hU
  · by_cases e2 : w = .isRef (.static Bundle.tN "SUPPRESSED_SENTINEL" Bundle.listD)
    · rw [e2]; exact hN
    · by_cases e3 : w = .laysStatic Bundle.tN "UNASSIGNED_STACK" Bundle.steD
      · rw [e3]; exact lU
      · by_cases e4 : w = .laysStatic Bundle.tN "SUPPRESSED_SENTINEL" Bundle.listD
        · rw [e4]; exact lN
        · exact h1 w (List.mem_filter.mpr ⟨hw, by unfold vx_no; rw [decide_eq_true e1, decide_eq_true e2, decide_eq_true e3, decide_eq_true e4]; rfl⟩)
/-- where a static field lies, its class's statics cell in H -/
def vx_L (C n d : String) (A : Nat → Prop) (U : State) (H : Heap) : Prop := ∃ (c : ClassId) (k : Class) (i : Nat) (f : Field) (a : Nat) (cell : Cell), U.vm.findClass C = some c ∧ U.fieldFound? C n d = some (c, k, i, f) ∧ f.isStatic = true ∧ k.statics = some a ∧ H[a]? = some cell ∧ cell.vm.isStatics = true ∧ cell.cls = c ∧ f.slot < cell.slots.size ∧ k.staticTypes[f.slot]? = some f.type ∧ ¬ A a
theorem vx_L.moved {C n d : String} {A : Nat → Prop} {u U : State} {H : Heap} (hvm : u.vm.Alike U.vm) (h : vx_L C n d A u H) : vx_L C n d A U H := by
  obtain ⟨c, k, i, f, a, cell, h1, h2, h3, h4, h5, h6, h7, h8, h9, h10⟩ := h
  obtain ⟨k', hi', he⟩ := State.fieldFound?_setVm hvm h2
  exact ⟨c, k', i, f, a, cell, by rw [hvm.findClass]; exact h1, hi', h3, by rw [he]; exact h4, h5, h6, h7, h8, by rw [he]; exact h9, h10⟩
theorem vx_L.kept {C n d : String} {A : Nat → Prop} {U : State} {H H1 : Heap} (h : vx_L C n d A U H) (hq : ∀ a : Nat, a < H.size → ¬ A a → H1[a]? = H[a]?) : vx_L C n d A U H1 := by
  obtain ⟨c, k, i, f, a, cell, h1, h2, h3, h4, h5, h6, h7, h8, h9, h10⟩ := h
  exact ⟨c, k, i, f, a, cell, h1, h2, h3, h4, by rw [hq a (Array.getElem?_eq_some_iff.mp h5).1 h10]; exact h5, h6, h7, h8, h9, h10⟩
theorem vx_L.narrow {C n d : String} {A B : Nat → Prop} {U : State} {H : Heap} (h : vx_L C n d A U H) (hAB : ∀ q, B q → A q) : vx_L C n d B U H := by
  obtain ⟨c, k, i, f, a, cell, h1, h2, h3, h4, h5, h6, h7, h8, h9, h10⟩ := h
  exact ⟨c, k, i, f, a, cell, h1, h2, h3, h4, h5, h6, h7, h8, h9, fun z => h10 (hAB _ z)⟩
theorem vx_L.word {C n d : String} {A : Nat → Prop} {s : State} {args : Array Value} (h : vx_L C n d A s s.heap) : (Cond.laysStatic C n d).before args s = true := by
  obtain ⟨c, k, i, f, a, cell, h1, h2, h3, h4, h5, h6, h7, h8, h9, -⟩ := h
  show (Cond.laysStatic C n d).holds args s none s [] = true
  exact Cond.laysStatic_of h1 h2 h3 h4 h5 h6 h7 h8 h9
/-- .. and what it holds: null or some reference -/
def vx_Zq (C n d : String) (A : Nat → Prop) (U : State) (H : Heap) : Prop := va_Zq C n d A U H ∧ vx_L C n d A U H
theorem vx_Zq.moved {C n d : String} {A : Nat → Prop} {u U : State} {H : Heap} (hvm : u.vm.Alike U.vm) (h : vx_Zq C n d A u H) : vx_Zq C n d A U H := ⟨va_Zq.moved hvm h.1, vx_L.moved hvm h.2⟩
theorem vx_Zq.kept {C n d : String} {A : Nat → Prop} {U : State} {H H1 : Heap} (h : vx_Zq C n d A U H) (hq : ∀ a : Nat, a < H.size → ¬ A a → H1[a]? = H[a]?) : vx_Zq C n d A U H1 := ⟨va_Zq.kept h.1 hq, vx_L.kept h.2 hq⟩
theorem vx_Zq.narrow {C n d : String} {A B : Nat → Prop} {U : State} {H : Heap} (h : vx_Zq C n d A U H) (hAB : ∀ q, B q → A q) : vx_Zq C n d B U H := ⟨va_Zq.narrow h.1 hAB, vx_L.narrow h.2 hAB⟩
theorem vx_Zqof {args : Array Value} {s : State} {C n d : String} {A : Nat → Prop} (hl : (Cond.laysStatic C n d).before args s = true) (hini : (Cond.initialized C).before args s = true) (h : (Cond.isRef (.static C n d)).before args s = true) (hA : ∀ a : Nat, a < s.heap.size → ¬ A a) : vx_Zq C n d A s s.heap := by
  refine ⟨va_Zqof hl hini h hA, ?_⟩
  obtain ⟨c, k, i, f, a, cell, h1, h2, h3, h4, h5, h6, h7, h8, h9⟩ := Cond.laysStatic_spec hl
  exact ⟨c, k, i, f, a, cell, h1, h2, h3, h4, h5, h6, h7, h8, h9, hA a (Array.getElem?_eq_some_iff.mp h5).1⟩
theorem vx_isRef {C n d : String} {v : Value} {A : Nat → Prop} {s : State} {args : Array Value} (h : va_Z C n d v A s s.heap) (hv : v.isRef = true) : (Cond.isRef (.static C n d)).before args s = true := by
  obtain ⟨cf, kf, fi, f, a, cell, h1, h2, h3, h4, h5, h6, h7, -⟩ := h
  have he : (Term.static C n d).eval args s none [] s = some v := by
    simp [Term.eval, State.fieldNamed?, h1, h2, h4, h5, h6, h7]
  simp only [Cond.before, Cond.holds, Cond.value, he]
  cases v <;> simp_all [Value.isRef]
theorem vx_isRefq {C n d : String} {A : Nat → Prop} {s : State} {args : Array Value} (h : va_Zq C n d A s s.heap) : (Cond.isRef (.static C n d)).before args s = true := by
  rcases h with h | ⟨t, h⟩
  · exact vx_isRef h rfl
  · exact vx_isRef h rfl
/-- the same frame, seen from here: as if the method were called anew in this heap -/
theorem vx_rebase {T : State} (X : Stand p l e R s m args below meth c T locs cells slots) {R' : Room} (hf : R'.frames ≤ R.frames) (hl : R'.locals ≤ R.locals) (hc : cells + R'.cells ≤ R.cells) (hs : slots + R'.slots ≤ R.slots) :
    Stand p l e R' ((T.setVm s.vm).setFrames (.invoking m args :: below)) m args below meth c T [] 0 0 := by
  have htop : (T.setVm s.vm).topJava?.isSome := X.here.top
  have hF : ((T.setVm s.vm).setFrames (.invoking m args :: below)).frames = .invoking m args :: below := State.frames_setFrames _ (State.cur_lt_of_top htop)
  obtain ⟨g₀, hg0⟩ := Option.isSome_iff_exists.mp htop
  obtain ⟨r, hr⟩ := State.topJava?_eq_some.mp hg0
  have hl9 : e.platform.stackLimits (T.setVm s.vm).me = e.platform.stackLimits s.me := X.limits
  have hb9 : (T.setVm s.vm).me.stackBytes = s.me.stackBytes := X.bytes
  refine ⟨X.admits, X.cas, X.clock, hF, ?_, X.hears, X.method, X.code, X.here, X.tail, X.warmed, ?_, ?_, ?_⟩
  · have h := X.room
    have hU : ((T.setVm s.vm).setFrames (.invoking m args :: below)).localsInUse = s.localsInUse := by
      rw [State.localsInUse_invoking hF (meth := meth) (c := c) X.method X.code, State.localsInUse_invoking X.frames X.method X.code]
    simp only [State.hasRoom, Bool.and_eq_true, decide_eq_true_eq] at h ⊢
    obtain ⟨⟨⟨⟨h1, h2, h3, h4, h5, h6⟩, h7⟩, h8⟩, h9⟩ := h
    rw [X.frames, List.length_cons] at h2 h3
    have q1 := X.heapSize
    have q2 := X.used
    simp only [hF, hU, List.length_cons, State.stackLimits_setFrames, State.stackBytes_setFrames, hl9, hb9]
    refine ⟨⟨⟨⟨by omega, by omega, by omega, by omega, by omega, h6⟩, ?_⟩, ?_⟩, X.book⟩
    · show T.heap.size + R'.cells ≤ e.platform.maxCells
      omega
    · show T.slotsUsed + R'.slots ≤ e.platform.maxSlots
      omega
  · rw [State.stackLimits_setFrames]; rfl
  · rw [State.stackBytes_setFrames]; rfl
  · refine ⟨?_, Nat.le_refl _, Nat.le_refl _, ?_, ?_, fun a c9 h9 => ⟨c9, h9, rfl, rfl, fun _ _ => rfl⟩⟩
    · obtain ⟨t, ht, -⟩ := State.frames_cons hr
      show T.setVm s.vm = { ((T.setVm s.vm).setFrames (.invoking m args :: below)).setFrames (T.setVm s.vm).frames with heap := T.heap, slotsUsed := T.slotsUsed }
      rw [State.setFrames_setFrames, State.setFrames_self ht]
      rfl
    · show T.slotsUsed = T.slotsUsed + ((T.heap.toList.drop T.heap.size).map (·.slots.size)).sum
      rw [List.drop_eq_nil_of_le (Nat.le_of_eq Array.length_toList)]
      rfl
    · show ((T.heap.toList.drop T.heap.size).map (·.slots.size)).sum ≤ 0
      rw [List.drop_eq_nil_of_le (Nat.le_of_eq Array.length_toList)]
      exact Nat.le_refl _
/-- 'throw new E()': new; dup; invokespecial; athrow -/
theorem vx_throw0 {cc : ByteArray} {pc : Nat} (hexec : p.tables.exec = Jvm.exec) (hb : c.code = cc) (hl : l.stackTraces = false) {own cls : String} {names : List String} {ik ic mc ms : Nat} {A : Nat → Prop}
    (hown : s.vm.findClass own = some m.cls) (hcls : Bundle.fit cls = true) (hnames : ∀ n ∈ names, Bundle.fit n = true)
    (hk : (Cond.classLink own ik cls).before args s = true) (hini : (Cond.initialized cls).before args s = true) (hat : ∀ w ∈ vx_at0 own ic cls names, w.before args s = true)
    (hgood : ∀ w ∈ Cond.classLink own ik cls :: Cond.initialized cls :: vx_at0 own ic cls names, vx_ot w = true)
    (hU : vx_Zq Bundle.tN "UNASSIGNED_STACK" Bundle.steD A s s.heap) (hN : vx_Zq Bundle.tN "SUPPRESSED_SENTINEL" Bundle.listD A s s.heap) (hS : va_S A s.heap H locs) (hsize : ls.size = c.maxLocals)
    (d0 : decode cc pc = .ok (.new ik, 3)) (d3 : decode cc (pc + 3) = .ok (.dup, 1)) (d4 : decode cc (pc + 4) = .ok (.invokespecial ic, 3)) (d7 : decode cc (pc + 7) = .ok (.athrow, 1))
    (hout : ∀ x ∈ c.exceptionTable.toList, covers x (pc + 7) = false)
    (hRframes : names.length + 3 < R.frames) (hRlocals : (rest.map fun v => v.category).sum + (13 * (names.length + 1) + 42) ≤ R.locals) (hRcells : cells + 1 ≤ R.cells) (hRslots : slots + 6 ≤ R.slots) (hlocks : meth.locks = false)
    (hx : ∀ t : State, s.vm.Alike t.vm → H.size ≤ t.heap.size → (∀ q : Nat, q < H.size → t.heap[q]? = H[q]?) → XC cls s t)
    (hf : ∀ z ∈ locs, free z.base) (hc : cells + 1 ≤ mc) (hs : slots + 6 ≤ ms) :
    W p l e R s m args below meth c H locs cells slots (vx_MQ below Qc XC args s mc ms free) (F0 m pc ls rest) := by
  intro T hT X
  have htr : e.platform.stackTraces = false := (show e.platform.stackTraces = l.stackTraces by rw [X.admits.platform]).trans hl
  have Y := vx_rebase X (R' := { frames := R.frames, locals := R.locals, cells := 1, slots := 6 }) (Nat.le_refl _) (Nat.le_refl _) hRcells hRslots
  obtain ⟨s', hA⟩ : ∃ z, z = (T.setVm s.vm).setFrames (.invoking m args :: below) := ⟨_, rfl⟩
  rw [← hA] at Y
  have hvm : s'.vm = s.vm := by rw [hA]; rfl
  have hhp : s'.heap = H := by rw [hA]; exact hT
  have hW0 : s.WarmedH s'.vm := by rw [hvm]; exact State.WarmedH.refl s
  have hat' : ∀ w ∈ vx_at0 own ic cls names, w.before args s' = true := fun w hw => vx_ot_at hW0 hvm.symm (hgood w (List.mem_cons_of_mem _ (List.mem_cons_of_mem _ hw))) (hat w hw)
  have hk' : (Cond.classLink own ik cls).before args s' = true := vx_ot_at hW0 hvm.symm (hgood _ List.mem_cons_self) hk
  have hini' : (Cond.initialized cls).before args s' = true := vx_ot_at hW0 hvm.symm (hgood _ (List.mem_cons_of_mem _ List.mem_cons_self)) hini
  have hU' : vx_Zq Bundle.tN "UNASSIGNED_STACK" Bundle.steD A s' s'.heap := by rw [hhp]; exact vx_Zq.moved hW0.alike (hU.kept hS.2.1)
  have hN' : vx_Zq Bundle.tN "SUPPRESSED_SENTINEL" Bundle.listD A s' s'.heap := by rw [hhp]; exact vx_Zq.moved hW0.alike (hN.kept hS.2.1)
  have h : ∀ w ∈ Bundle.ownAtoms0 own ic cls names, w.before args s' = true := vx_own hat' (vx_isRefq hU'.1) (vx_isRefq hN'.1) hU'.2.word hN'.2.word
  have hown' : s'.vm.findClass own = some m.cls := by rw [hvm]; exact hown
  have hins : (Cond.instantiable cls 6).before args s' = true := h _ (by simp [Bundle.ownAtoms0])
  obtain ⟨vm₁, cX, kX, hfX, hkX, -, -, X₁, st1⟩ := Y.newCold hexec (own := own) (C := cls) (index := ik) (n := 6) hown' hk' hins hini'
    (g := F0 m pc ls rest) rfl (by rw [hb]; exact d0) (Nat.le_refl _) (Nat.le_refl _)
  generalize hT1 : (T.setVm vm₁).pushCell { cls := cX, slots := kX.instanceTypes.map defaultValue, vm := .none } = T1 at X₁ st1
  have hcat : (Value.ref T.heap.size).category = 1 := rfl
  have hcellA : T1.heap[T.heap.size]? = some (freshCell cX kX) := by rw [← hT1]; exact State.heap_pushCell_size _ _
  have d3' : decode c.code (pc + 3) = .ok (.dup, 1) := by rw [hb]; exact d3
  obtain ⟨U, hsteps, hrun, hend, hW, hsame, ce, hce, hO⟩ := X₁.ctorThrow0 hexec htr (own := own) (cls := cls) (names := names) (ic := ic) hown' hcls hnames h (fun x hx => nomatch hx) hfX hkX hcellA (by rw [hhp, hT]; exact Nat.le_refl _)
    (g := { method := m, pc := pc + 4, locals := ls, stack := .ref T.heap.size :: .ref T.heap.size :: rest, locked := none }) rfl hsize rfl rfl (rest := rest) rfl
    (by rw [hb]; exact d4) (by rw [hb]; exact d7) hout hRframes (by simp only [List.map_cons, List.sum_cons, hcat]; omega) hlocks
  obtain ⟨f1, f2⟩ := vx_frame hsame
  rw [hhp] at f1 f2
  have hWs : s.WarmedH U.vm := State.WarmedH.trans hW0 hW
  have hcl : s.vm.findClass cls = some ce.cls := by
    have h9 := hO.cls
    rw [hvm] at h9
    exact h9
  have hall : s.sameButNew ({ U with vm := s.vm } : State) locs mc ms := by
    subst hA
    obtain ⟨e1, e2⟩ := hsame
    rw [State.setFrames_setFrames] at e1
    have h2 : (T.setVm s.vm).sameButNew ({ U with vm := s.vm } : State) [] (0 + 1) (0 + 6) := ⟨e1, e2⟩
    have h3 := X.same.trans h2
    rw [List.append_nil] at h3
    exact h3.mono hc hs
  refine ⟨U, ?_, .threw T.heap.size, hrun, hend, Or.inr ⟨T.heap.size, rfl, cls, ce, locs, hx U hWs.alike f1 (fun q hq => f2 q hq (fun z hz => nomatch hz)), hce, hO.vm, hcl, hWs, hall, hf⟩⟩
  refine st1 _ ?_
  show Steps p.tables e below (T1.setTop { method := m, pc := pc + 3, locals := ls, stack := .ref T.heap.size :: rest, locked := none }) _
  jvm_step X₁.here [X₁.here.top, hexec, d3', Value.category]
  exact hsteps
/-- 'throw new E("text")': new; dup; ldc; invokespecial; athrow -/
theorem vx_throwS {cc : ByteArray} {pc : Nat} (hexec : p.tables.exec = Jvm.exec) (hb : c.code = cc) (hl : l.stackTraces = false) {own cls text : String} {names : List String} {ik is ic mc ms sa : Nat} {A : Nat → Prop}
    (hown : s.vm.findClass own = some m.cls) (hcls : Bundle.fit cls = true) (hnames : ∀ n ∈ names, Bundle.fit n = true)
    (hk : (Cond.classLink own ik cls).before args s = true) (hini : (Cond.initialized cls).before args s = true) (hstr : vk_R own is text sa s) (hat : ∀ w ∈ vx_atS own ic cls names, w.before args s = true)
    (hgood : ∀ w ∈ Cond.classLink own ik cls :: Cond.initialized cls :: vx_atS own ic cls names, vx_ot w = true)
    (hU : vx_Zq Bundle.tN "UNASSIGNED_STACK" Bundle.steD A s s.heap) (hN : vx_Zq Bundle.tN "SUPPRESSED_SENTINEL" Bundle.listD A s s.heap) (hS : va_S A s.heap H locs) (hsize : ls.size = c.maxLocals)
    (d0 : decode cc pc = .ok (.new ik, 3)) (d3 : decode cc (pc + 3) = .ok (.dup, 1)) (d4 : decode cc (pc + 4) = .ok (.ldc is, 2)) (d6 : decode cc (pc + 6) = .ok (.invokespecial ic, 3)) (d9 : decode cc (pc + 9) = .ok (.athrow, 1))
    (hout : ∀ x ∈ c.exceptionTable.toList, covers x (pc + 9) = false)
    (hRframes : names.length + 3 < R.frames) (hRlocals : (rest.map fun v => v.category).sum + (13 * (names.length + 1) + 43) ≤ R.locals) (hRcells : cells + 1 ≤ R.cells) (hRslots : slots + 6 ≤ R.slots) (hlocks : meth.locks = false)
    (hx : ∀ t : State, s.vm.Alike t.vm → H.size ≤ t.heap.size → (∀ q : Nat, q < H.size → t.heap[q]? = H[q]?) → XC cls s t)
    (hf : ∀ z ∈ locs, free z.base) (hc : cells + 1 ≤ mc) (hs : slots + 6 ≤ ms) :
    W p l e R s m args below meth c H locs cells slots (vx_MQ below Qc XC args s mc ms free) (F0 m pc ls rest) := by
  intro T hT X
  have htr : e.platform.stackTraces = false := (show e.platform.stackTraces = l.stackTraces by rw [X.admits.platform]).trans hl
  have Y := vx_rebase X (R' := { frames := R.frames, locals := R.locals, cells := 1, slots := 6 }) (Nat.le_refl _) (Nat.le_refl _) hRcells hRslots
  obtain ⟨s', hA⟩ : ∃ z, z = (T.setVm s.vm).setFrames (.invoking m args :: below) := ⟨_, rfl⟩
  rw [← hA] at Y
  have hvm : s'.vm = s.vm := by rw [hA]; rfl
  have hhp : s'.heap = H := by rw [hA]; exact hT
  have hW0 : s.WarmedH s'.vm := by rw [hvm]; exact State.WarmedH.refl s
  have hat' : ∀ w ∈ vx_atS own ic cls names, w.before args s' = true := fun w hw => vx_ot_at hW0 hvm.symm (hgood w (List.mem_cons_of_mem _ (List.mem_cons_of_mem _ hw))) (hat w hw)
  have hk' : (Cond.classLink own ik cls).before args s' = true := vx_ot_at hW0 hvm.symm (hgood _ List.mem_cons_self) hk
  have hini' : (Cond.initialized cls).before args s' = true := vx_ot_at hW0 hvm.symm (hgood _ (List.mem_cons_of_mem _ List.mem_cons_self)) hini
  have hU' : vx_Zq Bundle.tN "UNASSIGNED_STACK" Bundle.steD A s' s'.heap := by rw [hhp]; exact vx_Zq.moved hW0.alike (hU.kept hS.2.1)
  have hN' : vx_Zq Bundle.tN "SUPPRESSED_SENTINEL" Bundle.listD A s' s'.heap := by rw [hhp]; exact vx_Zq.moved hW0.alike (hN.kept hS.2.1)
  have h : ∀ w ∈ Bundle.ownAtoms own ic cls names, w.before args s' = true := vx_own hat' (vx_isRefq hU'.1) (vx_isRefq hN'.1) hU'.2.word hN'.2.word
  have hown' : s'.vm.findClass own = some m.cls := by rw [hvm]; exact hown
  have hins : (Cond.instantiable cls 6).before args s' = true := h _ (by simp [Bundle.ownAtoms])
  obtain ⟨vm₁, cX, kX, hfX, hkX, -, -, X₁, st1⟩ := Y.newCold hexec (own := own) (C := cls) (index := ik) (n := 6) hown' hk' hins hini'
    (g := F0 m pc ls rest) rfl (by rw [hb]; exact d0) (Nat.le_refl _) (Nat.le_refl _)
  generalize hT1 : (T.setVm vm₁).pushCell { cls := cX, slots := kX.instanceTypes.map defaultValue, vm := .none } = T1 at X₁ st1
  have hcat : (Value.ref T.heap.size).category = 1 := rfl
  have hcellA : T1.heap[T.heap.size]? = some (freshCell cX kX) := by rw [← hT1]; exact State.heap_pushCell_size _ _
  have d3' : decode c.code (pc + 3) = .ok (.dup, 1) := by rw [hb]; exact d3
  have d4' : decode c.code (pc + 4) = .ok (.ldc is, 2) := by rw [hb]; exact d4
  have hstr' : vk_R own is text sa s' := vk_R.warm hW0 hstr
  obtain ⟨U, hsteps, hrun, hend, hW, hsame, ce, hce, hO⟩ := X₁.ctorThrowS hexec htr (own := own) (cls := cls) (names := names) (ic := ic) hown' hcls hnames h (fun x hx => nomatch hx) hfX hkX hcellA (by rw [hhp, hT]; exact Nat.le_refl _) (msg := .ref sa) rfl
    (g := { method := m, pc := pc + 6, locals := ls, stack := .ref sa :: .ref T.heap.size :: .ref T.heap.size :: rest, locked := none }) rfl hsize rfl rfl (rest := rest) rfl
    (by rw [hb]; exact d6) (by rw [hb]; exact d9) hout hRframes (by simp only [List.map_cons, List.sum_cons, hcat]; omega) hlocks
  obtain ⟨f1, f2⟩ := vx_frame hsame
  rw [hhp] at f1 f2
  have hWs : s.WarmedH U.vm := State.WarmedH.trans hW0 hW
  have hcl : s.vm.findClass cls = some ce.cls := by
    have h9 := hO.cls
    rw [hvm] at h9
    exact h9
  have hall : s.sameButNew ({ U with vm := s.vm } : State) locs mc ms := by
    subst hA
    obtain ⟨e1, e2⟩ := hsame
    rw [State.setFrames_setFrames] at e1
    have h2 : (T.setVm s.vm).sameButNew ({ U with vm := s.vm } : State) [] (0 + 1) (0 + 6) := ⟨e1, e2⟩
    have h3 := X.same.trans h2
    rw [List.append_nil] at h3
    exact h3.mono hc hs
  refine ⟨U, ?_, .threw T.heap.size, hrun, hend, Or.inr ⟨T.heap.size, rfl, cls, ce, locs, hx U hWs.alike f1 (fun q hq => f2 q hq (fun z hz => nomatch hz)), hce, hO.vm, hcl, hWs, hall, hf⟩⟩
  refine st1 _ ?_
  show Steps p.tables e below (T1.setTop { method := m, pc := pc + 3, locals := ls, stack := .ref T.heap.size :: rest, locked := none }) _
  jvm_step X₁.here [X₁.here.top, hexec, d3', Value.category]
  exact X₁.ldcString hexec (own := own) (text := text) (index := is) (a := sa) hown' hstr'.1 hstr'.2
    (g := { method := m, pc := pc + 4, locals := ls, stack := .ref T.heap.size :: .ref T.heap.size :: rest, locked := none }) rfl d4' _ hsteps
/-- 'throw new E("text")', the text by a wide index -/
theorem vx_throwSW {cc : ByteArray} {pc : Nat} (hexec : p.tables.exec = Jvm.exec) (hb : c.code = cc) (hl : l.stackTraces = false) {own cls text : String} {names : List String} {ik is ic mc ms sa : Nat} {A : Nat → Prop}
    (hown : s.vm.findClass own = some m.cls) (hcls : Bundle.fit cls = true) (hnames : ∀ n ∈ names, Bundle.fit n = true)
    (hk : (Cond.classLink own ik cls).before args s = true) (hini : (Cond.initialized cls).before args s = true) (hstr : vk_R own is text sa s) (hat : ∀ w ∈ vx_atS own ic cls names, w.before args s = true)
    (hgood : ∀ w ∈ Cond.classLink own ik cls :: Cond.initialized cls :: vx_atS own ic cls names, vx_ot w = true)
    (hU : vx_Zq Bundle.tN "UNASSIGNED_STACK" Bundle.steD A s s.heap) (hN : vx_Zq Bundle.tN "SUPPRESSED_SENTINEL" Bundle.listD A s s.heap) (hS : va_S A s.heap H locs) (hsize : ls.size = c.maxLocals)
    (d0 : decode cc pc = .ok (.new ik, 3)) (d3 : decode cc (pc + 3) = .ok (.dup, 1)) (d4 : decode cc (pc + 4) = .ok (.ldc_w is, 3)) (d7 : decode cc (pc + 7) = .ok (.invokespecial ic, 3)) (d10 : decode cc (pc + 10) = .ok (.athrow, 1))
    (hout : ∀ x ∈ c.exceptionTable.toList, covers x (pc + 10) = false)
    (hRframes : names.length + 3 < R.frames) (hRlocals : (rest.map fun v => v.category).sum + (13 * (names.length + 1) + 43) ≤ R.locals) (hRcells : cells + 1 ≤ R.cells) (hRslots : slots + 6 ≤ R.slots) (hlocks : meth.locks = false)
    (hx : ∀ t : State, s.vm.Alike t.vm → H.size ≤ t.heap.size → (∀ q : Nat, q < H.size → t.heap[q]? = H[q]?) → XC cls s t)
    (hf : ∀ z ∈ locs, free z.base) (hc : cells + 1 ≤ mc) (hs : slots + 6 ≤ ms) :
    W p l e R s m args below meth c H locs cells slots (vx_MQ below Qc XC args s mc ms free) (F0 m pc ls rest) := by
  intro T hT X
  have htr : e.platform.stackTraces = false := (show e.platform.stackTraces = l.stackTraces by rw [X.admits.platform]).trans hl
  have Y := vx_rebase X (R' := { frames := R.frames, locals := R.locals, cells := 1, slots := 6 }) (Nat.le_refl _) (Nat.le_refl _) hRcells hRslots
  obtain ⟨s', hA⟩ : ∃ z, z = (T.setVm s.vm).setFrames (.invoking m args :: below) := ⟨_, rfl⟩
  rw [← hA] at Y
  have hvm : s'.vm = s.vm := by rw [hA]; rfl
  have hhp : s'.heap = H := by rw [hA]; exact hT
  have hW0 : s.WarmedH s'.vm := by rw [hvm]; exact State.WarmedH.refl s
  have hat' : ∀ w ∈ vx_atS own ic cls names, w.before args s' = true := fun w hw => vx_ot_at hW0 hvm.symm (hgood w (List.mem_cons_of_mem _ (List.mem_cons_of_mem _ hw))) (hat w hw)
  have hk' : (Cond.classLink own ik cls).before args s' = true := vx_ot_at hW0 hvm.symm (hgood _ List.mem_cons_self) hk
  have hini' : (Cond.initialized cls).before args s' = true := vx_ot_at hW0 hvm.symm (hgood _ (List.mem_cons_of_mem _ List.mem_cons_self)) hini
  have hU' : vx_Zq Bundle.tN "UNASSIGNED_STACK" Bundle.steD A s' s'.heap := by rw [hhp]; exact vx_Zq.moved hW0.alike (hU.kept hS.2.1)
  have hN' : vx_Zq Bundle.tN "SUPPRESSED_SENTINEL" Bundle.listD A s' s'.heap := by rw [hhp]; exact vx_Zq.moved hW0.alike (hN.kept hS.2.1)
  have h : ∀ w ∈ Bundle.ownAtoms own ic cls names, w.before args s' = true := vx_own hat' (vx_isRefq hU'.1) (vx_isRefq hN'.1) hU'.2.word hN'.2.word
  have hown' : s'.vm.findClass own = some m.cls := by rw [hvm]; exact hown
  have hins : (Cond.instantiable cls 6).before args s' = true := h _ (by simp [Bundle.ownAtoms])
  obtain ⟨vm₁, cX, kX, hfX, hkX, -, -, X₁, st1⟩ := Y.newCold hexec (own := own) (C := cls) (index := ik) (n := 6) hown' hk' hins hini'
    (g := F0 m pc ls rest) rfl (by rw [hb]; exact d0) (Nat.le_refl _) (Nat.le_refl _)
  generalize hT1 : (T.setVm vm₁).pushCell { cls := cX, slots := kX.instanceTypes.map defaultValue, vm := .none } = T1 at X₁ st1
  have hcat : (Value.ref T.heap.size).category = 1 := rfl
  have hcellA : T1.heap[T.heap.size]? = some (freshCell cX kX) := by rw [← hT1]; exact State.heap_pushCell_size _ _
  have d3' : decode c.code (pc + 3) = .ok (.dup, 1) := by rw [hb]; exact d3
  have d4' : decode c.code (pc + 4) = .ok (.ldc_w is, 3) := by rw [hb]; exact d4
  have hstr' : vk_R own is text sa s' := vk_R.warm hW0 hstr
  obtain ⟨U, hsteps, hrun, hend, hW, hsame, ce, hce, hO⟩ := X₁.ctorThrowS hexec htr (own := own) (cls := cls) (names := names) (ic := ic) hown' hcls hnames h (fun x hx => nomatch hx) hfX hkX hcellA (by rw [hhp, hT]; exact Nat.le_refl _) (msg := .ref sa) rfl
    (g := { method := m, pc := pc + 7, locals := ls, stack := .ref sa :: .ref T.heap.size :: .ref T.heap.size :: rest, locked := none }) rfl hsize rfl rfl (rest := rest) rfl
    (by rw [hb]; exact d7) (by rw [hb]; exact d10) hout hRframes (by simp only [List.map_cons, List.sum_cons, hcat]; omega) hlocks
  obtain ⟨f1, f2⟩ := vx_frame hsame
  rw [hhp] at f1 f2
  have hWs : s.WarmedH U.vm := State.WarmedH.trans hW0 hW
  have hcl : s.vm.findClass cls = some ce.cls := by
    have h9 := hO.cls
    rw [hvm] at h9
    exact h9
  have hall : s.sameButNew ({ U with vm := s.vm } : State) locs mc ms := by
    subst hA
    obtain ⟨e1, e2⟩ := hsame
    rw [State.setFrames_setFrames] at e1
    have h2 : (T.setVm s.vm).sameButNew ({ U with vm := s.vm } : State) [] (0 + 1) (0 + 6) := ⟨e1, e2⟩
    have h3 := X.same.trans h2
    rw [List.append_nil] at h3
    exact h3.mono hc hs
  refine ⟨U, ?_, .threw T.heap.size, hrun, hend, Or.inr ⟨T.heap.size, rfl, cls, ce, locs, hx U hWs.alike f1 (fun q hq => f2 q hq (fun z hz => nomatch hz)), hce, hO.vm, hcl, hWs, hall, hf⟩⟩
  refine st1 _ ?_
  show Steps p.tables e below (T1.setTop { method := m, pc := pc + 3, locals := ls, stack := .ref T.heap.size :: rest, locked := none }) _
  jvm_step X₁.here [X₁.here.top, hexec, d3', Value.category]
  exact X₁.ldcStringW hexec (own := own) (text := text) (index := is) (a := sa) hown' hstr'.1 hstr'.2
    (g := { method := m, pc := pc + 4, locals := ls, stack := .ref T.heap.size :: .ref T.heap.size :: rest, locked := none }) rfl d4' _ hsteps
end Ends
section Bodies
variable {l : Launch}
theorem vx_ofW {y : MethodName} {ws ws' : List Cond} {rm : Room} {Pc : Array Value → State → Prop} {Qc : Array Value → State → Outcome → State → Prop} {XC : String → State → State → Prop} {mc ms : Nat} {free : Addr → Prop} {cc : ByteArray} {maxL : Nat} {ret : Option FieldType}
    (hy : plainName y.cls = true) (hw : ws = Cond.code y cc maxL ret :: ws')
    (body : ∀ p e s m args below meth c s₁, BodyLoose p l y (headSpec ws rm) cc maxL ret e s m args below meth c s₁ → c.maxLocals = maxL → (∀ x ∈ c.exceptionTable.toList, False) → Pc args s →
      W p l e (headSpec ws rm).room s m args below meth c s.heap [] 0 0 (vx_MQ below Qc XC args s mc ms free) (entryFrame m args maxL)) : vx_Met l y ws rm Pc Qc XC mc ms free := by
  refine MetFree.of_bodyS (code := cc) (maxLocals := maxL) (ret := ret) hy ?_ ?_
  · intro args s m h hn
    obtain ⟨meth, c, h1, h2, h3, h4, h5, h6, -, -⟩ := Cond.code_spec hn (atoms_spec (ws := ws) h _ (by rw [hw]; exact List.mem_cons_self))
    exact ⟨meth, c, h1, h2, h3, h4, h5, h6⟩
  · intro p e s m args below meth c s₁ B hml hP _
    have hh0 : s₁.heap = s.heap := by rw [B.state]; rfl
    have ht : ∀ x ∈ c.exceptionTable.toList, False := by
      obtain ⟨meth9, c9, h1, h2, -, -, -, -, h7, -⟩ := Cond.code_spec B.named (atoms_spec (ws := ws) B.pre _ (by rw [hw]; exact List.mem_cons_self))
      cases Option.some.inj (h1.symm.trans B.method)
      cases Option.some.inj (h2.symm.trans (Stand.of_body B).code)
      intro x hx
      rw [Array.isEmpty_iff.mp h7] at hx
      cases hx
    obtain ⟨t, a1, o, b1, b2, b3⟩ := body p e s m args below meth c s₁ B hml ht hP s₁ hh0 (Stand.of_body B)
    exact ⟨t, o, a1, b1, b2, b3⟩
/-- the table of a body with handlers -/
theorem vx_table {p : Program} {x y : MethodName} {S : Spec} {cc bytes : ByteArray} {maxL maxL' : Nat} {ret ret' : Option FieldType} {e : Env} {s s₁ : State} {m : MethodId} {args : Array Value} {below : List Frame} {meth : Method} {c : Code} {hh : List (Nat × Nat × Nat × Nat)}
    (B : BodyLoose p l y S cc maxL ret e s m args below meth c s₁) (h : (Cond.codeWith y bytes maxL' ret' hh).before args s = true) : c.exceptionTable.toList = tableOf hh := by
  obtain ⟨m9, meth9, c9, hn9, h1, h2, -, -, h6, -⟩ := Cond.codeWith_spec h
  cases Option.some.inj (hn9.symm.trans B.named)
  cases Option.some.inj (h1.symm.trans B.method)
  cases Option.some.inj (h2.symm.trans (Stand.of_body B).code)
  rw [← h6, table_eq]
end Bodies
end VXA
/-! ===== END ===== -/
/-! ===== BEGIN a static call of a method with an exception table ===== -/
section VXS
variable {p : Program} {l : Launch} {e : Env} {R : Room} {s : State} {m : MethodId} {args : Array Value} {below : List Frame} {meth : Method} {c : Code} {T : State} {H : Heap} {locs : List Loc} {cells slots : Nat}
abbrev vx_CSW (R : Room) (s : State) (args : Array Value) (own : String) (index : Nat) (y : MethodName) (bytes : ByteArray) (maxL : Nat) (ret : Option FieldType) (hh : List (Nat × Nat × Nat × Nat)) (ws : List Cond) (rm : Room) (mc ms n : Nat) : Prop :=
  (rm.cells = mc ∧ rm.slots = ms ∧ rm.frames + 1 ≤ R.frames ∧ 8 + (maxL + 11) + rm.locals ≤ R.locals ∧ (∀ w ∈ ws, ∀ (a' : Array Value) (U : State), s.WarmedH U.vm → w.before a' U = true) ∧ Cond.codeWith y bytes maxL ret hh ∈ ws) ∧
  (Cond.codeWith y bytes maxL ret hh).before args s = true ∧ (Cond.initialized y.cls).before args s = true ∧ (y.cls ≠ "java/lang/invoke/MethodHandle" ∧ y.cls ≠ "java/lang/invoke/VarHandle") ∧
  (∀ sig, parseMethodDescriptor y.desc = some sig → n = sig.parameters.length) ∧ (Cond.methodLink own index y).before args s = true ∧ (Cond.static y).before args s = true
theorem vx_cwSW {own : String} {index maxL mc ms : Nat} {y : MethodName} {bytes : ByteArray} {ret : Option FieldType} {hh : List (Nat × Nat × Nat × Nat)} {Ts ws ws' : List Cond} {rm : Room} (n : Nat) (ht : ∀ w ∈ Ts, w.before args s = true) (hT : GoodIn Ts (va_wsS own index y ws)) (hw : ws = Cond.codeWith y bytes maxL ret hh :: ws') (hrc : rm.cells = mc) (hrs : rm.slots = ms)
    (hd : y.cls ≠ "java/lang/invoke/MethodHandle" ∧ y.cls ≠ "java/lang/invoke/VarHandle" ∧ (parseMethodDescriptor y.desc).map (fun d => d.parameters.length) = some n) (hR : rm.frames + 1 ≤ R.frames ∧ 8 + (maxL + 11) + rm.locals ≤ R.locals) :
    vx_CSW R s args own index y bytes maxL ret hh ws rm mc ms n := by
  have ok : ∀ w ∈ va_wsS own index y ws, w.before args s = true := fun w h => ht w (hT w h).1
  have hG : GoodIn Ts ws := fun w h => hT w (by unfold va_wsS; exact List.mem_append_right _ h)
  have hc : Cond.codeWith y bytes maxL ret hh ∈ ws := by rw [hw]; exact List.mem_cons_self
  refine ⟨⟨hrc, hrs, hR.1, hR.2, pay_in ht hG, hc⟩, ht _ (hG _ hc).1, ok _ (by simp [va_wsS]), ⟨hd.1, hd.2.1⟩, fun sig h => ?_, ok _ (by simp [va_wsS]), ok _ (by simp [va_wsS])⟩
  have h2 := hd.2.2
  rw [h] at h2
  exact (Option.some.inj h2).symm
theorem vx_callSW (X : Stand p l e R s m args below meth c T locs cells slots) (hexec : p.tables.exec = Jvm.exec) {own : String} {index : Nat} {y : MethodName} {bytes : ByteArray} {maxL : Nat} {ret : Option FieldType} {hh : List (Nat × Nat × Nat × Nat)}
    (hown : s.vm.findClass own = some m.cls) (hlink : (Cond.methodLink own index y).before args s = true) (hstat : (Cond.static y).before args s = true) (hinit : (Cond.initialized y.cls).before args s = true)
    (hcode : (Cond.codeWith y bytes maxL ret hh).before args s = true) (hy : y.cls ≠ "java/lang/invoke/MethodHandle" ∧ y.cls ≠ "java/lang/invoke/VarHandle")
    {W9 : Nat} {Pre : Pt → Array Value → Prop} {Post : Pt → Array Value → Option Value → Pt → Prop} (hK : Back l R p e below s args y 3 W9 Pre Post)
    {g : JFrame} (hg : g.method = m) (hsize : g.locals.size = c.maxLocals) {argsL rest : List Value} (hlen : ∀ sig, parseMethodDescriptor y.desc = some sig → argsL.length = sig.parameters.length)
    (hstack : g.stack = argsL.reverse ++ rest) (hW : 2 * g.monitorRoom + (rest.map fun v => v.category).sum ≤ W9) (hdg : decode c.code g.pc = .ok (.invokestatic index, 3))
    (hpre : ∀ vm₁, s.WarmedH vm₁ → Pre ⟨T.setVm vm₁, locs, cells, slots⟩ argsL.toArray) :
    ∃ (v : Option Value) (vm₁ : Vm) (B : Pt), s.WarmedH vm₁ ∧ Stand p l e R s m args below meth c B.U B.locs B.cells B.slots ∧ Post ⟨T.setVm vm₁, locs, cells, slots⟩ argsL.toArray v B ∧
      ∀ target, Steps p.tables e below (B.U.setTop { g with pc := g.pc + 3, stack := v.toList ++ rest }) target → Steps p.tables e below (T.setTop g) target := by
  obtain ⟨mk, methM, cM, hnamed, hmethM, -, -, -, -, -, -, hsigM⟩ := Cond.codeWith_spec hcode
  have hstatic : methM.isStatic = true := Cond.static_spec hnamed hmethM hstat
  obtain ⟨kP, hkP, -⟩ := className_of_methodNamed hnamed
  have hinitP : kP.init = .initialized := Cond.initialized_spec (findClass_of_methodNamed hnamed) hkP hinit
  obtain ⟨vm₁, X₁, hstep₁⟩ := X.invokestatic hexec hown hlink hnamed hmethM hstatic hkP hinitP hy (g := g) hg (argsL := argsL) (rest := rest) (hlen _ hsigM) hstack hdg
  obtain ⟨v, B, X', hpost, hsteps⟩ := hK m meth c ⟨T.setVm vm₁, locs, cells, slots⟩ { g with stack := rest } (.invokestatic index) mk argsL.toArray X₁ hg hsize hdg hW (X₁.named hnamed) (hpre vm₁ X₁.warmed)
  exact ⟨v, vm₁, B, X₁.warmed, X', hpost, fun target h => hstep₁ _ fun acts => by rw [doInvoke_state]; exact hsteps.trans h⟩
theorem vx_runSW {y : MethodName} {bytes cc : ByteArray} {maxL nL mc ms n index : Nat} {ret : Option FieldType} {hh : List (Nat × Nat × Nat × Nat)} {ws : List Cond} {rm : Room} {Pc : Array Value → State → Prop} {Qc : Array Value → State → Outcome → State → Prop} {free : Addr → Prop} {Ts : List Cond} {own : String} {As rest : List Value} {g : JFrame}
    (S : CallFix p m c cc nL s args Ts own) (hM : Met l y ws rm Pc Qc mc ms free) (cw : vx_CSW R s args own index y bytes maxL ret hh ws rm mc ms n) (hp : PreS s H Pc As)
    (hg : g.method = m) (hn : As.length = n) (hsize : g.locals.size = nL) (hstack : g.stack = As.reverse ++ rest) (hW : 2 * g.monitorRoom + (rest.map fun v => v.category).sum ≤ 8) (hdg : decode cc g.pc = .ok (.invokestatic index, 3)) (hf : cells + mc ≤ R.cells ∧ slots + ms ≤ R.slots) :
    va_Run p l e R s m args below meth c H locs cells slots mc ms g rest (Qc As.toArray) (free) := by
  obtain ⟨⟨hrc, hrs, hfr, hlo, hws, hcw⟩, hcode, hini, hy, hlen, hl, hstt⟩ := cw
  have hK : Back l R p e below s args y 3 8 (PreOf R mc ms Pc) (PostOf Qc mc ms free) := va_backW (hh := hh) (bytes := bytes) (maxL := maxL) (ret := ret) hM hp.1 hrc hrs hfr hlo hws hcw (fun a' U hW => word_at hW (Or.inl (by first | rfl | simp [Cond.onTables, Cond.keeps, Cond.steady])) hini)
  obtain ⟨hx, hb, hml, ho, -⟩ := S
  intro T hT X
  obtain ⟨v, vm₁, ⟨U', l2, c2, s2⟩, hW₁, X', ⟨g', mk, t, L, e1, e2, hq, h1, hL, h2, h3⟩, st⟩ := vx_callSW X hx (hh := hh) (bytes := bytes) (maxL := maxL) (ret := ret) ho hl hstt hini hcode hy hK hg (hsize.trans hml.symm) (argsL := As) (rest := rest) (fun sig h => hn.trans (hlen sig h)) hstack hW (by rw [hb]; exact hdg)
    (fun vm₁ hW₁ => ⟨hf.1, hf.2, hp.2 (T.setVm vm₁) hT hW₁⟩)
  dsimp only [Pt.U, Pt.locs, Pt.cells, Pt.slots] at X' e1 e2 h1 h2 h3 st
  subst h1; subst h2; subst h3
  exact ⟨v, (T.setVm vm₁).calling g' mk As.toArray, t, U', L, hT, X', hL, e1, e2, hq, st⟩
/-- not caught here, past rows that name other classes: it goes on to the caller -/
theorem vx_outP {p : Program} {l : Launch} {e : Env} {R : Room} {s : State} {m : MethodId} {args : Array Value} {below : List Frame} {meth : Method} {c : Code} {H : Heap} {locs : List Loc} {cells slots : Nat} {free : Addr → Prop} {ls : Array Slot} {rest : List Value} {Qc : Array Value → State → Outcome → State → Prop} {XC : String → State → State → Prop}
    {pc : Nat} {own E : String} {ce : Cell} {q : Addr} {mc ms : Nat} (hown : s.vm.findClass own = some m.cls) (hlocks : meth.locks = false)
    (hpass : ∀ z ∈ c.exceptionTable.toList, covers z pc = false ∨ (z.catchType ≠ 0 ∧ ∃ nm : String, (Cond.classLink own z.catchType nm).before args s = true ∧ va_Nc E nm s)) (hcell : H[q]? = some ce) (hv : ce.vm = .none) (hcl : s.vm.findClass E = some ce.cls)
    (hx : ∀ t : State, t.heap = H → s.vm.Alike t.vm → XC E s t) (hf : ∀ z ∈ locs, free z.base) (hc : cells ≤ mc) (hs : slots ≤ ms) :
    vx_W p l e R s m args below meth c H locs cells slots (vx_MQ below Qc XC args s mc ms free) (F0 m pc ls rest) q := by
  intro T hT X
  have hpl : e.platform.magicAccessors = ({} : Platform).magicAccessors := by rw [X.admits.platform]
  obtain ⟨vm', hW', X', st⟩ := X.outThrough hlocks q (g := F0 m pc ls rest) rfl rfl rfl (cell := ce) (by rw [hT]; exact hcell) (by rw [hv]; rfl)
    (by obtain ⟨k9, h9, -⟩ := Vm.findClass_spec hcl; exact ⟨k9, h9⟩) (fun z hz => by
      rcases hpass z hz with h | ⟨hz0, nm, hl1, hn1⟩
      · exact Or.inl h
      · obtain ⟨c6, hc6, hcl6⟩ := Cond.classLink_spec hown hl1 e.platform hpl
        obtain ⟨a8, b8, h1, h2, h3⟩ := hn1
        cases Option.some.inj (h1.symm.trans hcl)
        cases Option.some.inj (h2.symm.trans hc6)
        exact Or.inr ⟨hz0, _, hcl6, h3⟩)
  obtain ⟨g₀, hfr⟩ := X'.frames_eq
  have hcell9 : ((T.setVm vm').setFrames (.throwing q :: below)).heap[q]? = some ce := by
    show T.heap[q]? = some ce
    rw [hT]; exact hcell
  have hend : Ended ((T.setVm vm').setFrames (.throwing q :: below)) below (.threw q) := State.frames_setFrames _ (State.cur_lt_of_frames hfr)
  refine ⟨(T.setVm vm').setFrames (.throwing q :: below), ?_, .threw q, X'.here.running, hend, Or.inr ⟨q, rfl, E, ce, locs, hx _ hT (X'.ends _).1.alike, hcell9, hv, hcl, (X'.ends _).1, (X'.ends _).2.mono hc hs, hf⟩⟩
  rw [X.pushThrowing_eq]
  exact st
/-- a thing of a world lies in the heap -/
theorem vx_lt {D : va_G} {cl : List vw_C} {ws : va_W} {H1 : Heap} (h : va_P D cl ws H1) {k : Nat} {q : Nat × va_E} (hk : ws[k]? = some q) : q.1 < H1.size := (h k q hk).lt
end VXS
/-! ===== END ===== -/
/-! ===== BEGIN methods with a table of their own: called by a name, returning or throwing ===== -/
section VXH
/-! vx_backW, vx_callVX, vx_callSX, vx_callVW, vx_runVW, vx_runVX, vx_runSX, vx_ofWH follow the same proofs as their sisters above (Free/Laws.lean, Shelf42/LK1.lean); vx_outP calls Shelf42/NT130.lean (outThrough). -/
section
variable {l : Launch} {R : Room} {p : Program} {e : Env} {below : List Frame} {s : State} {sargs : Array Value} {y : MethodName} {len W9 : Nat}
theorem vx_backW {ws : List Cond} {rm : Room} {Pc : Array Value → State → Prop} {Qc : Array Value → State → Outcome → State → Prop} {XC : String → State → State → Prop} {mc ms : Nat} {free : Addr → Prop} {bytes : ByteArray} {maxL : Nat} {ret : Option FieldType} {hh : List (Nat × Nat × Nat × Nat)}
    (hM : vx_Met l y ws rm Pc Qc XC mc ms free) (hblind : FrameBlind Pc) (hrc : rm.cells = mc) (hrs : rm.slots = ms)
    (hframes : rm.frames + 1 ≤ R.frames) (hlocals : W9 + (maxL + 11) + rm.locals ≤ R.locals)
    (hws : ∀ w ∈ ws, ∀ a' U, s.WarmedH U.vm → w.before a' U = true) (hcode : Cond.codeWith y bytes maxL ret hh ∈ ws) (hinit : ∀ a' U, s.WarmedH U.vm → (Cond.initialized y.cls).before a' U = true) :
    vx_Back l R p e below s sargs y len W9 (PreOf R mc ms Pc) (PostOf Qc mc ms free) (vx_Post XC mc ms free) := by
  intro m meth c A g ig mk a X hg hsize hdg hW hn hp
  have h1 : (headSpec ws rm).pre.before a A.U = true := atoms_intro fun w hw => hws w hw _ _ X.warmed
  have h2 : (Cond.codeWith y bytes maxL ret hh).before a A.U = true := hws _ hcode _ _ X.warmed
  have h3 : (Cond.initialized y.cls).before a A.U = true := hinit _ _ X.warmed
  have h4 : A.cells + (headSpec ws rm).room.cells ≤ R.cells := by rw [show (headSpec ws rm).room.cells = mc from hrc]; exact hp.1
  have h5 : A.slots + (headSpec ws rm).room.slots ≤ R.slots := by rw [show (headSpec ws rm).room.slots = ms from hrs]; exact hp.2.1
  have hPc : Pc a (A.U.calling g mk a) := hblind _ _ _ _ hp.2.2
  obtain ⟨U, Ls, c0, s0⟩ := A
  dsimp only [Pt.U, Pt.locs, Pt.cells, Pt.slots] at h1 h2 h3 h4 h5 X hn hPc ⊢
  obtain ⟨m9, methY, cY, hn9, hmY, hcY, -, hlY, -⟩ := Cond.codeWith_spec h2
  cases Option.some.inj (hn9.symm.trans hn)
  obtain ⟨kY, hkY, -⟩ := className_of_methodNamed hn
  have hinitY : kY.init = .initialized := Cond.initialized_spec (findClass_of_methodNamed hn) hkY h3
  have h : At U g.method c below := by rw [hg]; exact X.here
  have hlocals9 : W9 + (maxL + 11) + (headSpec ws rm).room.locals ≤ R.locals := hlocals
  have happ : (headSpec ws rm).appliesLoose y e.platform (U.calling g mk a) = true :=
    Spec.appliesLoose_calling (g := g) h hdg hn hkY hinitY
      (X.room_calling (g := g) (R' := (headSpec ws rm).room) hsize hmY hcY hframes (by rw [hlY]; omega) h4 h5) h1
  obtain ⟨mid, hmid⟩ := h.above
  have hfr : (U.setTop g).frames = (.java g :: mid) ++ below := by rw [State.frames_setTop' g h.top, hmid]; rfl
  obtain ⟨o, s₂, hsteps, -, hend, hq⟩ := Steps.callFree hM p X.admits X.cas X.clock (acts := []) hfr happ hPc trivial
  have hq' : vx_Q Qc XC mc ms free a (U.calling g mk a) o s₂ := hq
  rw [State.frames_setTop' g h.top] at hend
  obtain ⟨g₀, hg0⟩ := Option.isSome_iff_exists.mp h.top
  obtain ⟨r, hr⟩ := State.topJava?_eq_some.mp hg0
  have hr' : (({ U with heap := s₂.heap, slotsUsed := s₂.slotsUsed } : State).setVm s₂.vm).frames = .java g₀ :: r := hr
  rcases hq' with ⟨hqc, L, hfe, hL⟩ | ⟨q, rfl, E, ce, L, hx, hce, hcv, hcl, hW₂, hsm, hL⟩
  · obtain ⟨⟨v, rfl⟩, hW₂, e2, q2, q3, q4, q5, q6⟩ := id hfe
    have e3 : s₂ = ({ (U.calling g mk a).setFrames s₂.frames with heap := s₂.heap, slotsUsed := s₂.slotsUsed } : State).setVm s₂.vm := by
      have : s₂ = ({ s₂ with vm := (U.calling g mk a).vm } : State).setVm s₂.vm := rfl
      rw [e2] at this
      exact this
    obtain ⟨c₂, i₂, len₂, hc₂, hd₂, hf₂⟩ := hend
    have hW' : U.WarmedH s₂.vm := hW₂
    have hcc : c₂ = c := by
      have h1 : s₂.code? g.method = U.code? g.method := by
        rw [State.code?_eq, State.code?_eq, hW'.alike.method?]
      exact Option.some.inj (hc₂.symm.trans (h1.trans h.code))
    subst hcc
    have hlen : len₂ = len := by rw [hdg] at hd₂; cases hd₂; rfl
    subst hlen
    have hs₂ : s₂ = (({ U with heap := s₂.heap, slotsUsed := s₂.slotsUsed } : State).setVm s₂.vm).setTop { g with pc := g.pc + len₂, stack := v.toList ++ g.stack } := by
      refine e3.trans ?_
      rw [hf₂, State.calling_eq h.top, State.setFrames_setFrames, State.setTop_of_frames _ hr', hr]
      rfl
    have hsame : U.sameButNew ({ U with heap := s₂.heap, slotsUsed := s₂.slotsUsed } : State) L mc ms := by
      refine ⟨?_, q2, q3, q4, q5, q6⟩
      obtain ⟨t, ht, -⟩ := State.frames_cons hr
      show ({ U with heap := s₂.heap, slotsUsed := s₂.slotsUsed } : State) = { U.setFrames U.frames with heap := s₂.heap, slotsUsed := s₂.slotsUsed }
      rw [State.setFrames_self ht]
    subst hg
    refine Or.inl ⟨v, ⟨(({ U with heap := s₂.heap, slotsUsed := s₂.slotsUsed } : State).setVm s₂.vm), Ls ++ L, c0 + mc, s0 + ms⟩,
      ⟨X.admits, X.cas, X.clock, X.frames, X.room, X.hears, X.method, X.code, (X.here.setHeapUsed s₂.heap s₂.slotsUsed).setVm hW'.alike, X.tail, State.WarmedH.trans X.warmed hW', X.limits, X.bytes, X.same.trans (hsame.setVm s.vm)⟩,
      ⟨g, mk, s₂, L, rfl, rfl, hqc, rfl, hL, rfl, rfl⟩, ?_⟩
    show Steps p.tables e below _ ((({ U with heap := s₂.heap, slotsUsed := s₂.slotsUsed } : State).setVm s₂.vm).setTop { g with pc := g.pc + len₂, stack := v.toList ++ g.stack })
    rw [← hs₂]
    exact hsteps
  · obtain ⟨e2, q2, q3, q4, q5, q6⟩ := id hsm
    have e3 : s₂ = ({ (U.calling g mk a).setFrames s₂.frames with heap := s₂.heap, slotsUsed := s₂.slotsUsed } : State).setVm s₂.vm := by
      have : s₂ = ({ s₂ with vm := (U.calling g mk a).vm } : State).setVm s₂.vm := rfl
      rw [e2] at this
      exact this
    have hf₂ : s₂.frames = .throwing q :: .java g :: U.frames.tail := hend
    have hW' : U.WarmedH s₂.vm := hW₂
    have hs₂ : s₂ = ((({ U with heap := s₂.heap, slotsUsed := s₂.slotsUsed } : State).setVm s₂.vm).setTop g).pushFrame (.throwing q) := by
      refine e3.trans ?_
      rw [hf₂, State.calling_eq h.top, State.setFrames_setFrames, State.pushFrame, State.frames_setTop _ hr', State.setTop_of_frames _ hr', State.setFrames_setFrames, hr]
      rfl
    have hsame : U.sameButNew ({ U with heap := s₂.heap, slotsUsed := s₂.slotsUsed } : State) L mc ms := by
      refine ⟨?_, q2, q3, q4, q5, q6⟩
      obtain ⟨t, ht, -⟩ := State.frames_cons hr
      show ({ U with heap := s₂.heap, slotsUsed := s₂.slotsUsed } : State) = { U.setFrames U.frames with heap := s₂.heap, slotsUsed := s₂.slotsUsed }
      rw [State.setFrames_self ht]
    subst hg
    refine Or.inr ⟨q, ⟨(({ U with heap := s₂.heap, slotsUsed := s₂.slotsUsed } : State).setVm s₂.vm), Ls ++ L, c0 + mc, s0 + ms⟩,
      ⟨X.admits, X.cas, X.clock, X.frames, X.room, X.hears, X.method, X.code, (X.here.setHeapUsed s₂.heap s₂.slotsUsed).setVm hW'.alike, X.tail, State.WarmedH.trans X.warmed hW', X.limits, X.bytes, X.same.trans (hsame.setVm s.vm)⟩,
      ⟨g, mk, s₂, L, E, ce, rfl, rfl, hx, hce, hcv, hcl, rfl, hL, rfl, rfl⟩, ?_⟩
    show Steps p.tables e below _ (((({ U with heap := s₂.heap, slotsUsed := s₂.slotsUsed } : State).setVm s₂.vm).setTop g).pushFrame (.throwing q))
    rw [← hs₂]
    exact hsteps
end
variable {p : Program} {l : Launch} {e : Env} {R : Room} {s : State} {m : MethodId} {args : Array Value} {below : List Frame} {meth : Method} {c : Code} {T : State} {H : Heap} {locs : List Loc} {cells slots : Nat}
theorem vx_callVX (X : Stand p l e R s m args below meth c T locs cells slots) (hexec : p.tables.exec = Jvm.exec) {own C : String} {index : Nat} {y : MethodName} {bytes : ByteArray} {maxL : Nat} {ret : Option FieldType} {hh : List (Nat × Nat × Nat × Nat)}
    (hown : s.vm.findClass own = some m.cls) (hlink : (Cond.methodLink own index y).before args s = true) (hinst : (Cond.instanceMethod y).before args s = true) (hsel : (Cond.selects C y y).before args s = true)
    (hcode : (Cond.codeWith y bytes maxL ret hh).before args s = true) (hy : y.cls ≠ "java/lang/invoke/MethodHandle" ∧ y.cls ≠ "java/lang/invoke/VarHandle")
    {W9 : Nat} {Pre : Pt → Array Value → Prop} {Post : Pt → Array Value → Option Value → Pt → Prop} {PostX : Pt → Array Value → Addr → Pt → Prop} (hK : vx_Back l R p e below s args y 3 W9 Pre Post PostX)
    {b : Addr} {cellB : Cell} (hcell : T.heap[b]? = some cellB) (hobj : cellB.vm.isStatics = false) (hcls : s.vm.findClass C = some cellB.cls)
    {g : JFrame} (hg : g.method = m) (hsize : g.locals.size = c.maxLocals) {argsL rest : List Value} (hlen : ∀ sig, parseMethodDescriptor y.desc = some sig → argsL.length = sig.parameters.length)
    (hstack : g.stack = argsL.reverse ++ .ref b :: rest) (hW : 2 * g.monitorRoom + (rest.map fun v => v.category).sum ≤ W9) (hdg : decode c.code g.pc = .ok (.invokevirtual index, 3))
    (hpre : ∀ vm₁, s.WarmedH vm₁ → Pre ⟨T.setVm vm₁, locs, cells, slots⟩ (Value.ref b :: argsL).toArray) :
    (∃ (v : Option Value) (vm₁ : Vm) (B : Pt), s.WarmedH vm₁ ∧ Stand p l e R s m args below meth c B.U B.locs B.cells B.slots ∧ Post ⟨T.setVm vm₁, locs, cells, slots⟩ (Value.ref b :: argsL).toArray v B ∧
      ∀ target, Steps p.tables e below (B.U.setTop { g with pc := g.pc + 3, stack := v.toList ++ rest }) target → Steps p.tables e below (T.setTop g) target) ∨
    (∃ (q : Addr) (vm₁ : Vm) (B : Pt), s.WarmedH vm₁ ∧ Stand p l e R s m args below meth c B.U B.locs B.cells B.slots ∧ PostX ⟨T.setVm vm₁, locs, cells, slots⟩ (Value.ref b :: argsL).toArray q B ∧
      Steps p.tables e below (T.setTop g) ((B.U.setTop { g with stack := rest }).pushFrame (.throwing q))) := by
  obtain ⟨mk, methM, hnamed, hmethM, hstM, habM⟩ := Cond.instanceMethod_spec hinst
  obtain ⟨m8, methM', cM, hn8, hmethM', -, -, -, -, -, -, hsigM⟩ := Cond.codeWith_spec hcode
  cases Option.some.inj (hn8.symm.trans hnamed)
  cases hmethM.symm.trans hmethM'
  obtain ⟨c2, r2, m2, q1, q2, q3, q4, kP, hkP, hkPi⟩ := Cond.selects_spec hsel
  cases hcls.symm.trans q1
  cases (State.methodFound?_of_named hnamed hy).symm.trans q2
  cases hnamed.symm.trans q3
  have hselP : selectMethod e.platform s.vm cellB.cls mk = .method mk := by rw [Launch.admits_selectMethod X.admits]; exact q4
  obtain ⟨vm₁, X₁, hstep₁⟩ := X.invokevirtual hexec hown hlink hnamed hmethM hstM hkP hkPi hy (a := b) (cell := cellB) hcell
    (fun z h => by rw [h] at hobj; cases hobj) hselP hmethM habM hkP hkPi (g := g) hg (argsL := argsL) (rest := rest) (hlen _ hsigM) hstack hdg
  rcases hK m meth c ⟨T.setVm vm₁, locs, cells, slots⟩ { g with stack := rest } (.invokevirtual index) mk (Value.ref b :: argsL).toArray X₁ hg hsize hdg hW (X₁.named hnamed) (hpre vm₁ X₁.warmed) with ⟨v, B, X', hpost, hsteps⟩ | ⟨q, B, X', hpost, hsteps⟩
  · exact Or.inl ⟨v, vm₁, B, X₁.warmed, X', hpost, fun target h => hstep₁ _ fun acts => by rw [doInvoke_state]; exact hsteps.trans h⟩
  · exact Or.inr ⟨q, vm₁, B, X₁.warmed, X', hpost, hstep₁ _ fun acts => by rw [doInvoke_state]; exact hsteps⟩
theorem vx_callSX (X : Stand p l e R s m args below meth c T locs cells slots) (hexec : p.tables.exec = Jvm.exec) {own : String} {index : Nat} {y : MethodName} {bytes : ByteArray} {maxL : Nat} {ret : Option FieldType} {hh : List (Nat × Nat × Nat × Nat)}
    (hown : s.vm.findClass own = some m.cls) (hlink : (Cond.methodLink own index y).before args s = true) (hstat : (Cond.static y).before args s = true) (hinit : (Cond.initialized y.cls).before args s = true)
    (hcode : (Cond.codeWith y bytes maxL ret hh).before args s = true) (hy : y.cls ≠ "java/lang/invoke/MethodHandle" ∧ y.cls ≠ "java/lang/invoke/VarHandle")
    {W9 : Nat} {Pre : Pt → Array Value → Prop} {Post : Pt → Array Value → Option Value → Pt → Prop} {PostX : Pt → Array Value → Addr → Pt → Prop} (hK : vx_Back l R p e below s args y 3 W9 Pre Post PostX)
    {g : JFrame} (hg : g.method = m) (hsize : g.locals.size = c.maxLocals) {argsL rest : List Value} (hlen : ∀ sig, parseMethodDescriptor y.desc = some sig → argsL.length = sig.parameters.length)
    (hstack : g.stack = argsL.reverse ++ rest) (hW : 2 * g.monitorRoom + (rest.map fun v => v.category).sum ≤ W9) (hdg : decode c.code g.pc = .ok (.invokestatic index, 3))
    (hpre : ∀ vm₁, s.WarmedH vm₁ → Pre ⟨T.setVm vm₁, locs, cells, slots⟩ argsL.toArray) :
    (∃ (v : Option Value) (vm₁ : Vm) (B : Pt), s.WarmedH vm₁ ∧ Stand p l e R s m args below meth c B.U B.locs B.cells B.slots ∧ Post ⟨T.setVm vm₁, locs, cells, slots⟩ argsL.toArray v B ∧
      ∀ target, Steps p.tables e below (B.U.setTop { g with pc := g.pc + 3, stack := v.toList ++ rest }) target → Steps p.tables e below (T.setTop g) target) ∨
    (∃ (q : Addr) (vm₁ : Vm) (B : Pt), s.WarmedH vm₁ ∧ Stand p l e R s m args below meth c B.U B.locs B.cells B.slots ∧ PostX ⟨T.setVm vm₁, locs, cells, slots⟩ argsL.toArray q B ∧
      Steps p.tables e below (T.setTop g) ((B.U.setTop { g with stack := rest }).pushFrame (.throwing q))) := by
  obtain ⟨mk, methM, cM, hnamed, hmethM, -, -, -, -, -, -, hsigM⟩ := Cond.codeWith_spec hcode
  have hstatic : methM.isStatic = true := Cond.static_spec hnamed hmethM hstat
  obtain ⟨kP, hkP, -⟩ := className_of_methodNamed hnamed
  have hinitP : kP.init = .initialized := Cond.initialized_spec (findClass_of_methodNamed hnamed) hkP hinit
  obtain ⟨vm₁, X₁, hstep₁⟩ := X.invokestatic hexec hown hlink hnamed hmethM hstatic hkP hinitP hy (g := g) hg (argsL := argsL) (rest := rest) (hlen _ hsigM) hstack hdg
  rcases hK m meth c ⟨T.setVm vm₁, locs, cells, slots⟩ { g with stack := rest } (.invokestatic index) mk argsL.toArray X₁ hg hsize hdg hW (X₁.named hnamed) (hpre vm₁ X₁.warmed) with ⟨v, B, X', hpost, hsteps⟩ | ⟨q, B, X', hpost, hsteps⟩
  · exact Or.inl ⟨v, vm₁, B, X₁.warmed, X', hpost, fun target h => hstep₁ _ fun acts => by rw [doInvoke_state]; exact hsteps.trans h⟩
  · exact Or.inr ⟨q, vm₁, B, X₁.warmed, X', hpost, hstep₁ _ fun acts => by rw [doInvoke_state]; exact hsteps⟩
theorem vx_callVW (X : Stand p l e R s m args below meth c T locs cells slots) (hexec : p.tables.exec = Jvm.exec) {own C : String} {index : Nat} {y : MethodName} {bytes : ByteArray} {maxL : Nat} {ret : Option FieldType} {hh : List (Nat × Nat × Nat × Nat)}
    (hown : s.vm.findClass own = some m.cls) (hlink : (Cond.methodLink own index y).before args s = true) (hinst : (Cond.instanceMethod y).before args s = true) (hsel : (Cond.selects C y y).before args s = true)
    (hcode : (Cond.codeWith y bytes maxL ret hh).before args s = true) (hy : y.cls ≠ "java/lang/invoke/MethodHandle" ∧ y.cls ≠ "java/lang/invoke/VarHandle")
    {W9 : Nat} {Pre : Pt → Array Value → Prop} {Post : Pt → Array Value → Option Value → Pt → Prop} (hK : Back l R p e below s args y 3 W9 Pre Post)
    {b : Addr} {cellB : Cell} (hcell : T.heap[b]? = some cellB) (hobj : cellB.vm.isStatics = false) (hcls : s.vm.findClass C = some cellB.cls)
    {g : JFrame} (hg : g.method = m) (hsize : g.locals.size = c.maxLocals) {argsL rest : List Value} (hlen : ∀ sig, parseMethodDescriptor y.desc = some sig → argsL.length = sig.parameters.length)
    (hstack : g.stack = argsL.reverse ++ .ref b :: rest) (hW : 2 * g.monitorRoom + (rest.map fun v => v.category).sum ≤ W9) (hdg : decode c.code g.pc = .ok (.invokevirtual index, 3))
    (hpre : ∀ vm₁, s.WarmedH vm₁ → Pre ⟨T.setVm vm₁, locs, cells, slots⟩ (Value.ref b :: argsL).toArray) :
    ∃ (v : Option Value) (vm₁ : Vm) (B : Pt), s.WarmedH vm₁ ∧ Stand p l e R s m args below meth c B.U B.locs B.cells B.slots ∧ Post ⟨T.setVm vm₁, locs, cells, slots⟩ (Value.ref b :: argsL).toArray v B ∧
      ∀ target, Steps p.tables e below (B.U.setTop { g with pc := g.pc + 3, stack := v.toList ++ rest }) target → Steps p.tables e below (T.setTop g) target := by
  obtain ⟨mk, methM, hnamed, hmethM, hstM, habM⟩ := Cond.instanceMethod_spec hinst
  obtain ⟨m8, methM', cM, hn8, hmethM', -, -, -, -, -, -, hsigM⟩ := Cond.codeWith_spec hcode
  cases Option.some.inj (hn8.symm.trans hnamed)
  cases hmethM.symm.trans hmethM'
  obtain ⟨c2, r2, m2, q1, q2, q3, q4, kP, hkP, hkPi⟩ := Cond.selects_spec hsel
  cases hcls.symm.trans q1
  cases (State.methodFound?_of_named hnamed hy).symm.trans q2
  cases hnamed.symm.trans q3
  have hselP : selectMethod e.platform s.vm cellB.cls mk = .method mk := by rw [Launch.admits_selectMethod X.admits]; exact q4
  obtain ⟨vm₁, X₁, hstep₁⟩ := X.invokevirtual hexec hown hlink hnamed hmethM hstM hkP hkPi hy (a := b) (cell := cellB) hcell
    (fun z h => by rw [h] at hobj; cases hobj) hselP hmethM habM hkP hkPi (g := g) hg (argsL := argsL) (rest := rest) (hlen _ hsigM) hstack hdg
  obtain ⟨v, B, X', hpost, hsteps⟩ := hK m meth c ⟨T.setVm vm₁, locs, cells, slots⟩ { g with stack := rest } (.invokevirtual index) mk (Value.ref b :: argsL).toArray X₁ hg hsize hdg hW (X₁.named hnamed) (hpre vm₁ X₁.warmed)
  exact ⟨v, vm₁, B, X₁.warmed, X', hpost, fun target h => hstep₁ _ fun acts => by rw [doInvoke_state]; exact hsteps.trans h⟩
abbrev vx_CVW (R : Room) (s : State) (args : Array Value) (own C : String) (index : Nat) (y : MethodName) (bytes : ByteArray) (maxL : Nat) (ret : Option FieldType) (hh : List (Nat × Nat × Nat × Nat)) (ws : List Cond) (rm : Room) (mc ms n : Nat) : Prop :=
  (rm.cells = mc ∧ rm.slots = ms ∧ rm.frames + 1 ≤ R.frames ∧ 8 + (maxL + 11) + rm.locals ≤ R.locals ∧ (∀ w ∈ ws, ∀ (a' : Array Value) (U : State), s.WarmedH U.vm → w.before a' U = true) ∧ Cond.codeWith y bytes maxL ret hh ∈ ws) ∧
  (Cond.codeWith y bytes maxL ret hh).before args s = true ∧ (Cond.initialized y.cls).before args s = true ∧ (y.cls ≠ "java/lang/invoke/MethodHandle" ∧ y.cls ≠ "java/lang/invoke/VarHandle") ∧
  (∀ sig, parseMethodDescriptor y.desc = some sig → n = sig.parameters.length) ∧ (Cond.methodLink own index y).before args s = true ∧ (Cond.instanceMethod y).before args s = true ∧ (Cond.selects C y y).before args s = true
theorem vx_cwVW {own C : String} {index maxL mc ms : Nat} {y : MethodName} {bytes : ByteArray} {ret : Option FieldType} {hh : List (Nat × Nat × Nat × Nat)} {Ts ws ws' : List Cond} {rm : Room} (n : Nat) (ht : ∀ w ∈ Ts, w.before args s = true) (hT : GoodIn Ts (wsV own index C y ws)) (hw : ws = Cond.codeWith y bytes maxL ret hh :: ws') (hrc : rm.cells = mc) (hrs : rm.slots = ms)
    (hd : y.cls = C ∧ y.cls ≠ "java/lang/invoke/MethodHandle" ∧ y.cls ≠ "java/lang/invoke/VarHandle" ∧ (parseMethodDescriptor y.desc).map (fun d => d.parameters.length) = some n) (hR : rm.frames + 1 ≤ R.frames ∧ 8 + (maxL + 11) + rm.locals ≤ R.locals) :
    vx_CVW R s args own C index y bytes maxL ret hh ws rm mc ms n := by
  obtain ⟨hC, hd⟩ := hd
  subst hC
  have ok : ∀ w ∈ wsV own index y.cls y ws, w.before args s = true := fun w h => ht w (hT w h).1
  have hG : GoodIn Ts ws := fun w h => hT w (by unfold wsV; exact List.mem_append_right _ h)
  have hc : Cond.codeWith y bytes maxL ret hh ∈ ws := by rw [hw]; exact List.mem_cons_self
  refine ⟨⟨hrc, hrs, hR.1, hR.2, pay_in ht hG, hc⟩, ht _ (hG _ hc).1, ok _ (by simp [wsV]), ⟨hd.1, hd.2.1⟩, fun sig h => ?_, ok _ (by simp [wsV]), ok _ (by simp [wsV]), ok _ (by simp [wsV])⟩
  have h2 := hd.2.2
  rw [h] at h2
  exact (Option.some.inj h2).symm
theorem vx_runVW {y : MethodName} {bytes cc : ByteArray} {maxL nL mc ms n index : Nat} {ret : Option FieldType} {hh : List (Nat × Nat × Nat × Nat)} {ws : List Cond} {rm : Room} {Pc : Array Value → State → Prop} {Qc : Array Value → State → Outcome → State → Prop} {free : Addr → Prop} {Ts : List Cond} {own C : String} {b : Addr} {As rest : List Value} {g : JFrame}
    (S : CallFix p m c cc nL s args Ts own) (hM : Met l y ws rm Pc Qc mc ms free) (cw : vx_CVW R s args own C index y bytes maxL ret hh ws rm mc ms n) (hp : PreV s H C b Pc As)
    (hg : g.method = m) (hn : As.length = n) (hsize : g.locals.size = nL) (hstack : g.stack = As.reverse ++ .ref b :: rest) (hW : 2 * g.monitorRoom + (rest.map fun v => v.category).sum ≤ 8) (hdg : decode cc g.pc = .ok (.invokevirtual index, 3)) (hf : cells + mc ≤ R.cells ∧ slots + ms ≤ R.slots) :
    va_Run p l e R s m args below meth c H locs cells slots mc ms g rest (Qc (Value.ref b :: As).toArray) free := by
  obtain ⟨⟨hrc, hrs, hfr, hlo, hws, hcw⟩, hcode, hini, hy, hlen, hl, hin, hse⟩ := cw
  have hK : Back l R p e below s args y 3 8 (PreOf R mc ms Pc) (PostOf Qc mc ms free) := va_backW (hh := hh) (bytes := bytes) (maxL := maxL) (ret := ret) hM hp.1 hrc hrs hfr hlo hws hcw (fun a' U hW => word_at hW (Or.inl (by first | rfl | simp [Cond.onTables, Cond.keeps, Cond.steady])) hini)
  obtain ⟨hx, hb, hml, ho, -⟩ := S
  obtain ⟨-, ⟨cellB, hcB, hoB, hclB⟩, hPc⟩ := hp
  intro T hT X
  obtain ⟨v, vm₁, ⟨U', l2, c2, s2⟩, hW₁, X', ⟨g', mk, t, L, e1, e2, hq, h1, hL, h2, h3⟩, st⟩ := vx_callVW X hx (C := C) (hh := hh) (bytes := bytes) (maxL := maxL) (ret := ret) ho hl hin hse hcode hy hK (by rw [hT]; exact hcB) hoB hclB hg (hsize.trans hml.symm) (argsL := As) (rest := rest) (fun sig h => hn.trans (hlen sig h)) hstack hW (by rw [hb]; exact hdg)
    (fun vm₁ hW₁ => ⟨hf.1, hf.2, hPc (T.setVm vm₁) hT hW₁⟩)
  dsimp only [Pt.U, Pt.locs, Pt.cells, Pt.slots] at X' e1 e2 h1 h2 h3 st
  subst h1; subst h2; subst h3
  exact ⟨v, (T.setVm vm₁).calling g' mk (Value.ref b :: As).toArray, t, U', L, hT, X', hL, e1, e2, hq, st⟩
section
variable {y : MethodName} {bytes cc : ByteArray} {maxL nL mc ms n index : Nat} {ret : Option FieldType} {ws : List Cond} {rm : Room} {Pc : Array Value → State → Prop} {Qc : Array Value → State → Outcome → State → Prop} {XC : String → State → State → Prop} {free : Addr → Prop} {Ts : List Cond} {own C : String} {b : Addr} {As rest : List Value} {g : JFrame}
theorem vx_runVX {hh : List (Nat × Nat × Nat × Nat)} (S : CallFix p m c cc nL s args Ts own) (hM : vx_Met l y ws rm Pc Qc XC mc ms free) (cw : vx_CVW R s args own C index y bytes maxL ret hh ws rm mc ms n) (hp : PreV s H C b Pc As)
    (hg : g.method = m) (hn : As.length = n) (hsize : g.locals.size = nL) (hstack : g.stack = As.reverse ++ .ref b :: rest) (hW : 2 * g.monitorRoom + (rest.map fun v => v.category).sum ≤ 8) (hdg : decode cc g.pc = .ok (.invokevirtual index, 3)) (hf : cells + mc ≤ R.cells ∧ slots + ms ≤ R.slots) :
    vx_Run p l e R s m args below meth c H locs cells slots mc ms g rest (Qc (Value.ref b :: As).toArray) XC free := by
  obtain ⟨⟨hrc, hrs, hfr, hlo, hws, hcw⟩, hcode, hini, hy, hlen, hl, hin, hse⟩ := cw
  have hK : vx_Back l R p e below s args y 3 8 (PreOf R mc ms Pc) (PostOf Qc mc ms free) (vx_Post XC mc ms free) := vx_backW (hh := hh) (bytes := bytes) (maxL := maxL) (ret := ret) hM hp.1 hrc hrs hfr hlo hws hcw (fun a' U hW => word_at hW (Or.inl (by first | rfl | simp [Cond.onTables, Cond.keeps, Cond.steady])) hini)
  obtain ⟨hx, hb, hml, ho, -⟩ := S
  obtain ⟨-, ⟨cellB, hcB, hoB, hclB⟩, hPc⟩ := hp
  intro T hT X
  rcases vx_callVX X hx (C := C) (hh := hh) (bytes := bytes) (maxL := maxL) (ret := ret) ho hl hin hse hcode hy hK (by rw [hT]; exact hcB) hoB hclB hg (hsize.trans hml.symm) (argsL := As) (rest := rest) (fun sig h => hn.trans (hlen sig h)) hstack hW (by rw [hb]; exact hdg)
    (fun vm₁ hW₁ => ⟨hf.1, hf.2, hPc (T.setVm vm₁) hT hW₁⟩) with ⟨v, vm₁, ⟨U', l2, c2, s2⟩, hW₁, X', ⟨g', mk, t, L, e1, e2, hq, h1, hL, h2, h3⟩, st⟩ | ⟨q, vm₁, ⟨U', l2, c2, s2⟩, hW₁, X', ⟨g', mk, t, L, E, ce, e1, e2, hq, hce, hcv, hcl, h1, hL, h2, h3⟩, st⟩
  · dsimp only [Pt.U, Pt.locs, Pt.cells, Pt.slots] at X' e1 e2 h1 h2 h3 st
    subst h1; subst h2; subst h3
    exact Or.inl ⟨v, (T.setVm vm₁).calling g' mk (Value.ref b :: As).toArray, t, U', L, hT, X', hL, e1, e2, hq, st⟩
  · dsimp only [Pt.U, Pt.locs, Pt.cells, Pt.slots] at X' e1 e2 h1 h2 h3 st hcl
    subst h1; subst h2; subst h3
    exact Or.inr ⟨q, (T.setVm vm₁).calling g' mk (Value.ref b :: As).toArray, t, U', L, E, ce, hT, X', hL, e1, e2, hq, hce, hcv, vx_cls hW₁ hcl, st⟩
theorem vx_runSX {hh : List (Nat × Nat × Nat × Nat)} (S : CallFix p m c cc nL s args Ts own) (hM : vx_Met l y ws rm Pc Qc XC mc ms free) (cw : vx_CSW R s args own index y bytes maxL ret hh ws rm mc ms n) (hp : PreS s H Pc As)
    (hg : g.method = m) (hn : As.length = n) (hsize : g.locals.size = nL) (hstack : g.stack = As.reverse ++ rest) (hW : 2 * g.monitorRoom + (rest.map fun v => v.category).sum ≤ 8) (hdg : decode cc g.pc = .ok (.invokestatic index, 3)) (hf : cells + mc ≤ R.cells ∧ slots + ms ≤ R.slots) :
    vx_Run p l e R s m args below meth c H locs cells slots mc ms g rest (Qc As.toArray) XC free := by
  obtain ⟨⟨hrc, hrs, hfr, hlo, hws, hcw⟩, hcode, hini, hy, hlen, hl, hstt⟩ := cw
  have hK : vx_Back l R p e below s args y 3 8 (PreOf R mc ms Pc) (PostOf Qc mc ms free) (vx_Post XC mc ms free) := vx_backW (hh := hh) (bytes := bytes) (maxL := maxL) (ret := ret) hM hp.1 hrc hrs hfr hlo hws hcw (fun a' U hW => word_at hW (Or.inl (by first | rfl | simp [Cond.onTables, Cond.keeps, Cond.steady])) hini)
  obtain ⟨hx, hb, hml, ho, -⟩ := S
  intro T hT X
  rcases vx_callSX X hx (hh := hh) (bytes := bytes) (maxL := maxL) (ret := ret) ho hl hstt hini hcode hy hK hg (hsize.trans hml.symm) (argsL := As) (rest := rest) (fun sig h => hn.trans (hlen sig h)) hstack hW (by rw [hb]; exact hdg)
    (fun vm₁ hW₁ => ⟨hf.1, hf.2, hp.2 (T.setVm vm₁) hT hW₁⟩) with ⟨v, vm₁, ⟨U', l2, c2, s2⟩, hW₁, X', ⟨g', mk, t, L, e1, e2, hq, h1, hL, h2, h3⟩, st⟩ | ⟨q, vm₁, ⟨U', l2, c2, s2⟩, hW₁, X', ⟨g', mk, t, L, E, ce, e1, e2, hq, hce, hcv, hcl, h1, hL, h2, h3⟩, st⟩
  · dsimp only [Pt.U, Pt.locs, Pt.cells, Pt.slots] at X' e1 e2 h1 h2 h3 st
    subst h1; subst h2; subst h3
    exact Or.inl ⟨v, (T.setVm vm₁).calling g' mk As.toArray, t, U', L, hT, X', hL, e1, e2, hq, st⟩
  · dsimp only [Pt.U, Pt.locs, Pt.cells, Pt.slots] at X' e1 e2 h1 h2 h3 st hcl
    subst h1; subst h2; subst h3
    exact Or.inr ⟨q, (T.setVm vm₁).calling g' mk As.toArray, t, U', L, E, ce, hT, X', hL, e1, e2, hq, hce, hcv, vx_cls hW₁ hcl, st⟩
end
end VXH
theorem vx_ofWH {l : Launch} {y : MethodName} {ws ws' : List Cond} {rm : Room} {Pc : Array Value → State → Prop} {Qc : Array Value → State → Outcome → State → Prop} {XC : String → State → State → Prop} {mc ms : Nat} {free : Addr → Prop} {cc : ByteArray} {maxL : Nat} {ret : Option FieldType} {hh : List (Nat × Nat × Nat × Nat)}
    (hy : plainName y.cls = true) (hw : ws = Cond.codeWith y cc maxL ret hh :: ws')
    (body : ∀ p e s m args below meth c s₁, BodyLoose p l y (headSpec ws rm) cc maxL ret e s m args below meth c s₁ → c.maxLocals = maxL → Pc args s →
      W p l e (headSpec ws rm).room s m args below meth c s.heap [] 0 0 (vx_MQ below Qc XC args s mc ms free) (entryFrame m args maxL)) : vx_Met l y ws rm Pc Qc XC mc ms free := by
  refine MetFree.of_bodyS (code := cc) (maxLocals := maxL) (ret := ret) hy ?_ ?_
  · intro args s m h hn
    obtain ⟨m9, meth, c, hn9, h1, h2, h3, h4, -, h5, h6, -⟩ := Cond.codeWith_spec (atoms_spec (ws := ws) h _ (by rw [hw]; exact List.mem_cons_self))
    cases hn.symm.trans hn9
    exact ⟨meth, c, h1, h2, h3, h4, h5, h6⟩
  · intro p e s m args below meth c s₁ B hml hP _
    have hh0 : s₁.heap = s.heap := by rw [B.state]; rfl
    obtain ⟨t, a1, o, b1, b2, b3⟩ := body p e s m args below meth c s₁ B hml hP s₁ hh0 (Stand.of_body B)
    exact ⟨t, o, a1, b1, b2, b3⟩
/-! ===== END ===== -/

/-! ===== BEGIN what the machine throws by itself, no traces kept ===== -/
section VXM
set_option maxHeartbeats 1000000 in
/-- the machine throws cls with the message text, no traces kept: from its note over the frame g to 'throwing' over the same frame (follows the proofs of Stand.vmThrowsMessage, Shelf/KitTracedVmS.lean, and Stand.throwsMessageColdBareV, StandMessageColdV.lean, without the step out of the frame) -/
theorem vx_vmAt {p : Program} {l : Launch} {e : Env} {R : Room} {s : State} {m₀ : MethodId} {args : Array Value} {below : List Frame} {meth : Method} {c : Code} {W : State} {locs : List Loc} {cells slots : Nat}
    (X : Stand p l e R s m₀ args below meth c W locs cells slots) (hexec : p.tables.exec = Jvm.exec) (htr : e.platform.stackTraces = false) {cls : String} {names : List String} {text : String}
    (hcls : Bundle.fit cls = true) (hnames : ∀ n ∈ names, Bundle.fit n = true) (hsoe : (cls == "java/lang/StackOverflowError") = false) (hoom : (cls == "java/lang/OutOfMemoryError") = false)
    (h : ∀ a ∈ Bundle.messageArmAtoms cls names, a.before args s = true)
    (hlocs : ∀ x ∈ locs, ∀ cell, s.heap[x.base]? = some cell → cell.vm.isStatics = false)
    (htext : (text == notModelled) = false) (hlimit : ¬ (stringBytes (stringToUtf16 text)).size > e.platform.arrayLengthLimit) (hheap : ¬ (stringBytes (stringToUtf16 text)).size * componentBytes .byte > e.platform.maxHeapBytes)
    {g : JFrame} (hg : g.method = m₀) (hsize : g.locals.size = c.maxLocals)
    (hRframes : names.length + 4 < R.frames) (hRlocals : 2 * g.monitorRoom + (g.stack.map fun v => v.category).sum + 10240 ≤ R.locals) (hshort : 13 * names.length + 55 ≤ 10240)
    (hRcells : cells + 3 ≤ R.cells) (hRslots : slots + ((stringBytes (stringToUtf16 text)).size + 4 + 6) ≤ R.slots) (hlocks : meth.locks = false) :
    ∃ (S : State) (q : Addr) (ce : Cell), (∀ target, Steps p.tables e below ((S.setTop g).pushFrame (.throwing q)) target → Steps p.tables e below ((W.setTop g).pushFrame (.throwNew cls (some text) none)) target) ∧
      Stand p l e R s m₀ args below meth c S locs (cells + 3) (slots + ((stringBytes (stringToUtf16 text)).size + 4 + 6)) ∧ S.heap[q]? = some ce ∧ s.vm.findClass cls = some ce.cls ∧ ce.vm = .none := by
  have howns : e.platform.frameOwnsMonitors = true := by rw [X.admits.platform]
  have hfin : e.platform.finalization = false := by rw [X.admits.platform]
  have hpl : e.platform.magicAccessors = ({} : Platform).magicAccessors := by rw [X.admits.platform]
  have a : ∀ x, x ∈ Bundle.messageArmAtoms cls names → x.holds args s none s [] = true := fun x hx => h x hx
  obtain ⟨T, Z0, L, -, Y⟩ := ThrowableC.of_atoms (args := args) howns hfin hpl (fun x hx => h x (by simp [Bundle.messageArmAtoms, hx]))
  obtain ⟨Z, M, LZ, LM, hnZ⟩ := Init0T.ofS_atoms (args := args) hpl L Y (fun x hx => h x (by simp [Bundle.messageArmAtoms, hx]))
  obtain ⟨P1, Ps, hlen, L1, hL, hP1m, hlink1, hlink⟩ := Bundle.chainS (args := args) hpl hnZ names cls hcls hnames (fun x hx => h x (by simp [Bundle.messageArmAtoms, hx]))
  obtain ⟨Zs, LZs, hn4, hfitv, hfitc⟩ := StringT.of_atoms (args := args) (fun x hx => h x (by simp [Bundle.messageArmAtoms, hx]))
  have hfound : s.vm.findClass cls = some P1.m.cls := findClass_of_methodNamed hP1m
  obtain ⟨c1, kX, hc1, hk, hord, -, -, hn6⟩ := Cond.instantiable_spec (a (.instantiable cls 6) (by simp [Bundle.messageArmAtoms]))
  cases Option.some.inj (hc1.symm.trans hfound)
  have hinit := Cond.initialized_spec hfound hk (a (.initialized cls) (by simp [Bundle.messageArmAtoms]))
  have hctor : kX.findMethod "<init>" "(Ljava/lang/String;)V" = some P1.m.idx := findMethod_of_methodNamed hP1m hk
  have hsel0 : selectMethod e.platform s.vm P1.m.cls T.fill0 = .method T.fill0 := by
    obtain ⟨c2, r2, m2, q1, q2, q3, q4, -⟩ := Cond.selects_spec (a (.selects cls Bundle.tFill0 Bundle.tFill0) (by simp [Bundle.messageArmAtoms]))
    cases Option.some.inj (q1.symm.trans hfound)
    cases Option.some.inj (q2.symm.trans (State.methodFound?_of_named Y.fill0 (by decide)))
    cases Option.some.inj (q3.symm.trans Y.fill0)
    rw [Launch.admits_selectMethod X.admits]; exact q4
  have hselF : selectMethod e.platform s.vm P1.m.cls T.fill = .method T.fill := by
    obtain ⟨c2, r2, m2, q1, q2, q3, q4, -⟩ := Cond.selects_spec (a (.selects cls Bundle.tFill Bundle.tFill) (by simp [Bundle.messageArmAtoms]))
    cases Option.some.inj (q1.symm.trans hfound)
    cases Option.some.inj (q2.symm.trans (State.methodFound?_of_named Y.fill (by decide)))
    cases Option.some.inj (q3.symm.trans Y.fill)
    rw [Launch.admits_selectMethod X.admits]; exact q4
  obtain ⟨cellS0, hcS0, hiss⟩ := Y.statics
  obtain ⟨u0, hu0⟩ := Cond.staticRefV Y.unassigned L.unassignedStatic L.statics hcS0 hiss (a (.isRef (.static Bundle.tN "UNASSIGNED_STACK" Bundle.steD)) (by simp [Bundle.messageArmAtoms]))
  obtain ⟨sen, hsen⟩ := Cond.staticRefV Y.sentinel L.sentinelStatic L.statics hcS0 hiss (a (.isRef (.static Bundle.tN "SUPPRESSED_SENTINEL" Bundle.listD)) (by simp [Bundle.messageArmAtoms]))
  obtain ⟨ci198, i198, fB, hk198, hg198, ha198, hsB, -, hnB, htB, hffB⟩ := Cond.ownField (t := .object "java/lang/Object") Y.found L.cls (by decide +kernel) (a (.fieldLink Bundle.tN 198 Bundle.tN "backtrace" "Ljava/lang/Object;") (by simp [Bundle.messageArmAtoms])) (a (.lays Bundle.tN Bundle.tN "backtrace" "Ljava/lang/Object;") (by simp [Bundle.messageArmAtoms])) e.platform hpl
  obtain ⟨cellS, hcS', heS, -, hkeep⟩ := X.same.2.2.2.2.2 T.aS cellS0 hcS0
  have hcellS : W.heap[T.aS]? = some cellS := hcS'
  have hout' : ∀ i, (⟨T.aS, i⟩ : Loc) ∉ locs := fun i hmem => by
    have := hlocs _ hmem cellS0 hcS0
    rw [hiss] at this; cases this
  have hknownS : cellS.vm ≠ .unknown := by
    rw [heS]; intro hu
    rw [show cellS0.vm = .unknown from hu] at hiss
    cases hiss
  have hvU : cellS.slots[T.fUnassigned.slot]? = some u0.v := by rw [hkeep _ (hout' _)]; exact hu0
  have hvSen : cellS.slots[T.fSentinel.slot]? = some sen.v := by rw [hkeep _ (hout' _)]; exact hsen
  obtain ⟨iM, hffM⟩ := Y.msg
  obtain ⟨tyC, dC, hdC, hdnC⟩ := Cond.laysAt hfound hk Y.cause (a (.lays cls Bundle.tN "cause" "Ljava/lang/Throwable;") (by simp [Bundle.messageArmAtoms]))
  obtain ⟨tyS, dS, hdS, hdnS⟩ := Cond.laysAt hfound hk Y.stack (a (.lays cls Bundle.tN "stackTrace" Bundle.steD) (by simp [Bundle.messageArmAtoms]))
  obtain ⟨tyP, dP, hdP, hdnP⟩ := Cond.laysAt hfound hk Y.supp (a (.lays cls Bundle.tN "suppressedExceptions" Bundle.listD) (by simp [Bundle.messageArmAtoms]))
  obtain ⟨tyM, dM, hdM, hdnM⟩ := Cond.laysAt hfound hk hffM (a (.lays cls Bundle.tN "detailMessage" "Ljava/lang/String;") (by simp [Bundle.messageArmAtoms]))
  obtain ⟨tyB, dB, hdB, hdnB⟩ := Cond.laysAt hfound hk hffB (a (.lays cls Bundle.tN "backtrace" "Ljava/lang/Object;") (by simp [Bundle.messageArmAtoms]))
  have bC := Cond.laysApart hdB hdC hdnB hdnC (by rw [hnB, Y.causeName]; decide)
  have bS := Cond.laysApart hdB hdS hdnB hdnS (by rw [hnB, Y.stackName]; decide)
  have bP := Cond.laysApart hdB hdP hdnB hdnP (by rw [hnB, Y.suppName]; decide)
  have hbk : ((preparedCellV T.toThrowableT (freshCell P1.m.cls kX) (W.heap.size + 2) u0 sen).withEntry W.cur).slots[fB.slot]? = some .null := by
    have := fresh_default (c := P1.m.cls) tyB
    rw [htB] at this
    simpa [preparedCellV, Cell.setSlot, Cell.withEntry, Array.getElem?_setIfInBounds, bC, bS, bP, bC.symm, bS.symm, bP.symm, defaultValue] using this
  have tkC := Takes.of_laid (v := .ref (W.heap.size + 2)) hk hord tyC (by rw [Y.causeType]; rfl)
  have tkS := Takes.of_laid (v := u0.v) hk hord tyS (by rw [Y.stackType]; exact fits_refV_array _ u0)
  have tkP := Takes.of_laid (v := sen.v) hk hord tyP (by rw [Y.suppType]; exact fits_refV_object _ sen)
  have tkM := Takes.of_laid (v := .ref (W.heap.size + 1)) hk hord tyM (by rw [Y.msgType]; rfl)
  have hskip : SkipFacts T e.platform s (fun u => u) u0 ((preparedCellV T.toThrowableT (freshCell P1.m.cls kX) (W.heap.size + 2) u0 sen).withEntry W.cur) := ⟨{ ci198 := ci198, i198 := i198, fBack := fB }, ⟨hk198, hg198, ha198, hsB⟩, hbk, fun _ _ => rfl⟩
  have h0 : At W g.method c below := by rw [hg]; exact X.here
  obtain ⟨hbeyond, hfreeW⟩ := X.vmMayThrow hsize (.throwNew cls (some text) none) (fun f hf => by cases hf) rfl hRlocals
  have hfr' : W.frames.length + Ps.length + 4 < (e.platform.stackLimits W.me).1 := by have := X.framesAbove hRframes; omega
  have hwd' : (stackUse (.java g :: W.frames.tail)).2 + 13 * Ps.length + 55 ≤ (e.platform.stackLimits W.me).2 := by have := X.stackAbove hsize (K := 13 * Ps.length + 55) (by omega); omega
  have hslots : W.slotsUsed + (stringBytes (stringToUtf16 text)).size + Zs.kS.instanceTypes.size + kX.instanceTypes.size ≤ e.platform.maxSlots := by
    have := X.slotsAbove hRslots
    rw [hn4, hn6]
    omega
  obtain ⟨vm', hW', st⟩ := Steps.vmThrowsMessageColdByV p (s₀ := s) (S := W) (g := g) h0 hexec T L Z LZ M LM X.warmed (t := W.cur) rfl Zs LZs P1 L1 Ps hL hlink1 hlink hsoe hoom hfound hk hinit hord hctor
    (Launch.admits_hotImplicitExceptions X.admits) hbeyond hfreeW htext hlimit hheap (X.cellsAbove hRcells) hslots (hfitv _) (hfitc _)
    (Nn := fun u => u) heapOnly_id (fun _ _ => rfl) (fun _ => rfl) (fun u x y => setCell_twice _ _ _ _) (fun _ => Nat.le_refl _) (cN := ((preparedCellV T.toThrowableT (freshCell P1.m.cls kX) (W.heap.size + 2) u0 sen).withEntry W.cur))
    hsel0 hcellS hknownS hvU tkS (fun _ hu => hu) (fun _ hu => hu) rfl rfl rfl (by simp [preparedCellV, Cell.setSlot, Cell.withEntry]) hskip (fun _ _ hA hW _ hroom _ hrest => L.nativeOff p htr hA hW hroom hrest) hselF hvSen tkC tkP tkM Y.objLocals rfl hfr' hwd'
  rw [plainBareV_eq T.toThrowableT (W.heap.size + 2) u0 sen (.ref (W.heap.size + 1)) W.cur rfl rfl] at st
  obtain ⟨-, -, w3, w4, -, -, -⟩ := withThrown_facts e.platform W Zs text P1.m.cls kX
  have X3 := ((X.pushed (bytesOf Zs.cB (stringToUtf16 text))).pushed (stringAt Zs.cS Zs.kS Zs.fv Zs.fc (stringToUtf16 text) W.heap.size)).pushed (freshCell P1.m.cls kX)
  rw [← withString_eq] at X3
  have X4 := X3.noted hW'
  have ha : (W.heap.size + 2) < ((withThrown W Zs text P1.m.cls kX).setVm vm').heap.size := by show _ < (withThrown W Zs text P1.m.cls kX).heap.size; rw [w3]; omega
  have hcell : ((withThrown W Zs text P1.m.cls kX).setVm vm').heap[(W.heap.size + 2)]? = some (freshCell P1.m.cls kX) := w4
  have X5 := ((((X4.stored hcell T.fCause.slot (.ref (W.heap.size + 2))).storedAgain ha T.fStack.slot u0.v).storedAgain ha T.fSupp.slot sen.v).storedAgain ha T.fStack.slot u0.v).storedAgain ha T.fMsg.slot (.ref (W.heap.size + 1))
  obtain ⟨g₁, hfrM⟩ := X5.frames_eq
  have hU : ((((withThrown W Zs text P1.m.cls kX).setVm vm').setCell (W.heap.size + 2) (plainBareV T.toThrowableT (freshCell P1.m.cls kX) (W.heap.size + 2) u0 sen (.ref (W.heap.size + 1)))).setTop g).pushFrame (.throwing (W.heap.size + 2)) = (((withThrown W Zs text P1.m.cls kX).setVm vm').setCell (W.heap.size + 2) (plainBareV T.toThrowableT (freshCell P1.m.cls kX) (W.heap.size + 2) u0 sen (.ref (W.heap.size + 1)))).setFrames (.throwing (W.heap.size + 2) :: .java g :: below) := by
    rw [State.pushFrame, State.frames_setTop _ hfrM, State.setTop_of_frames _ hfrM, State.setFrames_setFrames]
  have b1 : (bytesOf Zs.cB (stringToUtf16 text)).slots.size = (stringBytes (stringToUtf16 text)).size := by
    rw [(Cell.writeAll_facts _ _).2.2]; simp [bytes0]
  have b2 : (stringAt Zs.cS Zs.kS Zs.fv Zs.fc (stringToUtf16 text) W.heap.size).slots.size = 4 := by simp [string0, Cell.setSlot, hn4]
  have b3 : (freshCell P1.m.cls kX).slots.size = 6 := by simp [hn6]
  rw [b1, b2, b3] at X5
  have e9 : slots + (stringBytes (stringToUtf16 text)).size + 4 + 6 = slots + ((stringBytes (stringToUtf16 text)).size + 4 + 6) := by omega
  rw [e9] at X5
  simp only [List.append_assoc, List.cons_append, List.nil_append] at X5
  refine ⟨((withThrown W Zs text P1.m.cls kX).setVm vm').setCell (W.heap.size + 2) (plainBareV T.toThrowableT (freshCell P1.m.cls kX) (W.heap.size + 2) u0 sen (.ref (W.heap.size + 1))), W.heap.size + 2, _, fun target ht => st _ (by rw [X.tail, ← hU]; exact ht),
    X5.forget (fun y hy => ?_), heapAt_setCell_self _ ha, hfound, rfl⟩
  simp only [List.mem_cons, List.not_mem_nil, or_false] at hy
  have hge : s.heap.size ≤ W.heap.size := X.same.2.1
  rcases hy with rfl | rfl | rfl | rfl | rfl <;> exact Nat.le_trans hge (Nat.le_add_right _ 2)
set_option maxHeartbeats 1000000 in
/-- the machine throws NullPointerException, no traces kept: from its note over the frame g to 'throwing' over the same frame (follows the proof of Stand.vmThrowsNpe, Shelf42/KT2.lean; throwsNpeColdBareVAt, Shelf42/NT91.lean, called) -/
theorem vx_npeAt {p : Program} {l : Launch} {e : Env} {R : Room} {s : State} {m₀ : MethodId} {args : Array Value} {below : List Frame} {meth : Method} {c : Code} {W : State} {locs : List Loc} {cells slots : Nat}
    (X : Stand p l e R s m₀ args below meth c W locs cells slots) (hexec : p.tables.exec = Jvm.exec) (htr : e.platform.stackTraces = false) {n : Nat}
    (h : ∀ a ∈ Bundle.npeArmAtoms n, a.before args s = true)
    (hlocs : ∀ x ∈ locs, ∀ cell, s.heap[x.base]? = some cell → cell.vm.isStatics = false)
    {g : JFrame} (hg : g.method = m₀) (hsize : g.locals.size = c.maxLocals)
    (hRframes : 7 < R.frames) (hRlocals : 2 * g.monitorRoom + (g.stack.map fun v => v.category).sum + 10240 ≤ R.locals)
    (hRcells : cells + 1 ≤ R.cells) (hRslots : slots + n ≤ R.slots) (hlocks : meth.locks = false) :
    ∃ (S : State) (q : Addr) (ce : Cell), (∀ target, Steps p.tables e below ((S.setTop g).pushFrame (.throwing q)) target → Steps p.tables e below ((W.setTop g).pushFrame (.throwNew "java/lang/NullPointerException" none none)) target) ∧
      Stand p l e R s m₀ args below meth c S locs (cells + 1) (slots + n) ∧ S.heap[q]? = some ce ∧ s.vm.findClass "java/lang/NullPointerException" = some ce.cls ∧ ce.vm = .none := by
  have howns : e.platform.frameOwnsMonitors = true := by rw [X.admits.platform]
  have hfin : e.platform.finalization = false := by rw [X.admits.platform]
  have hpl : e.platform.magicAccessors = ({} : Platform).magicAccessors := by rw [X.admits.platform]
  have hpl2 : e.platform.arrayCloneIsPublic = true := by rw [X.admits.platform]
  have a' : ∀ x, x ∈ Bundle.npeArmAtoms n → x.holds args s none s [] = true := fun x hx => h x hx
  obtain ⟨T, Z, L, LZ, Y⟩ := ThrowableC.of_atoms (args := args) howns hfin hpl (fun x hx => h x (by simp [Bundle.npeArmAtoms, hx]))
  obtain ⟨N, LN, hcN, hnNF, hordN, hffS⟩ := NpeC.of_atoms (args := args) hpl hpl2 L Y (fun x hx => h x (by simp [Bundle.npeArmAtoms, hx]))
  obtain ⟨P1, L1, hP1m, hP1s⟩ := PassC.of_atoms (args := args) (s := s) hpl (X := Bundle.nN) (Y := Bundle.rN) (by decide) (by decide) LibCode.NullPointerException.Init0.at_0 LibCode.NullPointerException.Init0.at_1 LibCode.NullPointerException.Init0.at_4 (fun x hx => h x (by simp [Bundle.npeArmAtoms, hx]))
  obtain ⟨PR, LR, hPRm, hPRs⟩ := PassC.of_atoms (args := args) (s := s) hpl (X := Bundle.rN) (Y := Bundle.eN) (by decide) (by decide) LibCode.RuntimeException.Init0.at_0 LibCode.RuntimeException.Init0.at_1 LibCode.RuntimeException.Init0.at_4 (fun x hx => h x (by simp [Bundle.npeArmAtoms, hx]))
  obtain ⟨PE, LEx, hPEm, hPEs⟩ := PassC.of_atoms (args := args) (s := s) hpl (X := Bundle.eN) (Y := Bundle.tN) (by decide) (by decide) LibCode.Exception.Init0.at_0 LibCode.Exception.Init0.at_1 LibCode.Exception.Init0.at_4 (fun x hx => h x (by simp [Bundle.npeArmAtoms, hx]))
  have hfound : s.vm.findClass Bundle.nN = some P1.m.cls := findClass_of_methodNamed hP1m
  have ecls : N.cN = P1.m.cls := Option.some.inj (hcN.symm.trans hfound)
  have hk : s.vm.classes[P1.m.cls]? = some N.kN := by rw [← ecls]; exact LN.cls
  have hinit := Cond.initialized_spec hfound hk (a' (.initialized Bundle.nN) (by simp [Bundle.npeArmAtoms]))
  have hctor : N.kN.findMethod "<init>" "()V" = some P1.m.idx := findMethod_of_methodNamed hP1m hk
  obtain ⟨c1, k1, hc1, hk1, -, -, -, hn⟩ := Cond.instantiable_spec (a' (.instantiable Bundle.nN n) (by simp [Bundle.npeArmAtoms]))
  cases Option.some.inj (hc1.symm.trans hfound)
  cases Option.some.inj (hk1.symm.trans hk)
  have hfsz : (freshCell P1.m.cls N.kN).slots.size = n := by simp [hn]
  have hlink1 : P1.sup = PR.m := Option.some.inj (hP1s.symm.trans hPRm)
  have hlinkR : PR.sup = PE.m := Option.some.inj (hPRs.symm.trans hPEm)
  have hlinkE : PE.sup = Z.m T.toThrowableT := Option.some.inj (hPEs.symm.trans Y.init0)
  have hLs : ∀ P, P ∈ [PR, PE] → P.Links0 e.platform s := fun P hP => by
    simp only [List.mem_cons, List.not_mem_nil, or_false] at hP
    rcases hP with rfl | rfl
    · exact LR
    · exact LEx
  have hsel0 : selectMethod e.platform s.vm P1.m.cls T.fill0 = .method T.fill0 := by
    obtain ⟨c2, r2, m2, q1, q2, q3, q4, -⟩ := Cond.selects_spec (a' (.selects Bundle.nN Bundle.tFill0 Bundle.tFill0) (by simp [Bundle.npeArmAtoms]))
    cases Option.some.inj (q1.symm.trans hfound)
    cases Option.some.inj (q2.symm.trans (State.methodFound?_of_named Y.fill0 (by decide)))
    cases Option.some.inj (q3.symm.trans Y.fill0)
    rw [Launch.admits_selectMethod X.admits]; exact q4
  have hselF : selectMethod e.platform s.vm P1.m.cls T.fill = .method N.fill := by
    obtain ⟨c2, r2, m2, q1, q2, q3, q4, -⟩ := Cond.selects_spec (a' (.selects Bundle.nN Bundle.tFill Bundle.nFill) (by simp [Bundle.npeArmAtoms]))
    cases Option.some.inj (q1.symm.trans hfound)
    cases Option.some.inj (q2.symm.trans (State.methodFound?_of_named Y.fill (by decide)))
    cases Option.some.inj (q3.symm.trans hnNF)
    rw [Launch.admits_selectMethod X.admits]; exact q4
  obtain ⟨cellS0, hcS0, hiss⟩ := Y.statics
  obtain ⟨u0, hu0⟩ := Cond.staticRefV Y.unassigned L.unassignedStatic L.statics hcS0 hiss (a' (.isRef (.static Bundle.tN "UNASSIGNED_STACK" Bundle.steD)) (by simp [Bundle.npeArmAtoms]))
  obtain ⟨sen, hsen⟩ := Cond.staticRefV Y.sentinel L.sentinelStatic L.statics hcS0 hiss (a' (.isRef (.static Bundle.tN "SUPPRESSED_SENTINEL" Bundle.listD)) (by simp [Bundle.npeArmAtoms]))
  obtain ⟨ci198, i198, fB, hk198, hg198, ha198, hsB, -, hnB, htB, hffB⟩ := Cond.ownField (t := .object "java/lang/Object") Y.found L.cls (by decide +kernel) (a' (.fieldLink Bundle.tN 198 Bundle.tN "backtrace" Bundle.objD) (by simp [Bundle.npeArmAtoms])) (a' (.lays Bundle.tN Bundle.tN "backtrace" Bundle.objD) (by simp [Bundle.npeArmAtoms])) e.platform hpl
  obtain ⟨cellS, hcS', heS, -, hkeep⟩ := X.same.2.2.2.2.2 T.aS cellS0 hcS0
  have hcellS : W.heap[T.aS]? = some cellS := hcS'
  have hout' : ∀ i, (⟨T.aS, i⟩ : Loc) ∉ locs := fun i hmem => by
    have := hlocs _ hmem cellS0 hcS0
    rw [hiss] at this; cases this
  have hknownS : cellS.vm ≠ .unknown := by
    rw [heS]; intro hu
    rw [show cellS0.vm = .unknown from hu] at hiss
    cases hiss
  have hvU : cellS.slots[T.fUnassigned.slot]? = some u0.v := by rw [hkeep _ (hout' _)]; exact hu0
  have hvSen : cellS.slots[T.fSentinel.slot]? = some sen.v := by rw [hkeep _ (hout' _)]; exact hsen
  obtain ⟨tyC, dC, hdC, hdnC⟩ := Cond.laysAt hfound hk Y.cause (a' (.lays Bundle.nN Bundle.tN "cause" "Ljava/lang/Throwable;") (by simp [Bundle.npeArmAtoms]))
  obtain ⟨tyS, dS, hdS, hdnS⟩ := Cond.laysAt hfound hk Y.stack (a' (.lays Bundle.nN Bundle.tN "stackTrace" Bundle.steD) (by simp [Bundle.npeArmAtoms]))
  obtain ⟨tyP, dP, hdP, hdnP⟩ := Cond.laysAt hfound hk Y.supp (a' (.lays Bundle.nN Bundle.tN "suppressedExceptions" Bundle.listD) (by simp [Bundle.npeArmAtoms]))
  obtain ⟨tyX, dX, hdX, hdnX⟩ := Cond.laysAt hfound hk hffS (a' (.lays Bundle.nN Bundle.nN "extendedMessageState" "I") (by simp [Bundle.npeArmAtoms, Bundle.npeAtoms]))
  obtain ⟨hnX, htX⟩ := State.fieldFound?_type hffS (t := .int) (by decide +kernel)
  have xC := Cond.laysApart hdC hdX hdnC hdnX (by rw [hnX, Y.causeName]; decide)
  have xS := Cond.laysApart hdS hdX hdnS hdnX (by rw [hnX, Y.stackName]; decide)
  have xP := Cond.laysApart hdP hdX hdnP hdnX (by rw [hnX, Y.suppName]; decide)
  have hv0 : (freshCell P1.m.cls N.kN).slots[N.fState.slot]? = some (.int 0) := by
    have := fresh_default (c := P1.m.cls) tyX
    rw [htX] at this; exact this
  obtain ⟨tyB, dB, hdB, hdnB⟩ := Cond.laysAt hfound hk hffB (a' (.lays Bundle.nN Bundle.tN "backtrace" Bundle.objD) (by simp [Bundle.npeArmAtoms]))
  have bC := Cond.laysApart hdB hdC hdnB hdnC (by rw [hnB, Y.causeName]; decide)
  have bS := Cond.laysApart hdB hdS hdnB hdnS (by rw [hnB, Y.stackName]; decide)
  have bP := Cond.laysApart hdB hdP hdnB hdnP (by rw [hnB, Y.suppName]; decide)
  have bX := Cond.laysApart hdB hdX hdnB hdnX (by rw [hnB, hnX]; decide)
  have hbk : ((npeCell N.toNpeT (preparedCellV T.toThrowableT (freshCell P1.m.cls N.kN) W.heap.size u0 sen) W.cur).withEntry W.cur).slots[fB.slot]? = some .null := by
    have := fresh_default (c := P1.m.cls) tyB
    rw [htB] at this
    simpa [npeCell, preparedCellV, Cell.setSlot, Cell.withEntry, Array.getElem?_setIfInBounds, bC, bS, bP, bX, bC.symm, bS.symm, bP.symm, bX.symm, defaultValue] using this
  have tkC := Takes.of_laid (v := .ref W.heap.size) hk hordN tyC (by rw [Y.causeType]; rfl)
  have tkS := Takes.of_laid (v := u0.v) hk hordN tyS (by rw [Y.stackType]; exact fits_refV_array _ u0)
  have tkP := Takes.of_laid (v := sen.v) hk hordN tyP (by rw [Y.suppType]; exact fits_refV_object _ sen)
  have tkX := Takes.of_laid (v := .int 1) hk hordN tyX (by rw [htX]; rfl)
  have hskip : SkipFacts T e.platform s (fun u => u) u0 ((npeCell N.toNpeT (preparedCellV T.toThrowableT (freshCell P1.m.cls N.kN) W.heap.size u0 sen) W.cur).withEntry W.cur) := ⟨{ ci198 := ci198, i198 := i198, fBack := fB }, ⟨hk198, hg198, ha198, hsB⟩, hbk, fun _ _ => rfl⟩
  obtain ⟨vm', X3, st, -⟩ := X.throwsNpeColdBareVAt hexec hg hsize T L Z LZ N LN P1 L1 [PR, PE] hLs hlink1 ⟨hlinkR, hlinkE, trivial⟩ hfound hk hinit hordN hctor hsel0 hselF hcellS hknownS hvU hvSen
    hv0 xC xS xP tkC tkS tkP tkX Y.objLocals hskip (fun _ _ hA hW _ hroom _ hrest => L.nativeOff p htr hA hW hroom hrest) (by simpa using hRframes) hRlocals (by simp) hRcells (by rw [hn]; exact hRslots)
  have hlt : W.heap.size < ((W.pushCell (freshCell P1.m.cls N.kN)).setVm vm').heap.size := by
    show W.heap.size < (W.pushCell (freshCell P1.m.cls N.kN)).heap.size
    rw [State.heap_size_pushCell]; omega
  rw [hfsz] at X3
  obtain ⟨g₁, hfrM⟩ := X3.frames_eq
  have hU : ((((W.pushCell (freshCell P1.m.cls N.kN)).setVm vm').setCell W.heap.size (npeBareV T.toThrowableT N.toNpeT (freshCell P1.m.cls N.kN) W.heap.size u0 sen)).setTop g).pushFrame (.throwing W.heap.size) = (((W.pushCell (freshCell P1.m.cls N.kN)).setVm vm').setCell W.heap.size (npeBareV T.toThrowableT N.toNpeT (freshCell P1.m.cls N.kN) W.heap.size u0 sen)).setFrames (.throwing W.heap.size :: .java g :: below) := by
    rw [State.pushFrame, State.frames_setTop _ hfrM, State.setTop_of_frames _ hfrM, State.setFrames_setFrames]
  refine ⟨_, W.heap.size, _, fun target ht => st.trans (by rw [← hU]; exact ht), X3.forget (fun y hy => ?_), heapAt_setCell_self _ hlt, hfound, rfl⟩
  simp only [List.mem_cons, List.not_mem_nil, or_false] at hy
  have hge : s.heap.size ≤ W.heap.size := X.same.2.1
  rcases hy with rfl | rfl | rfl | rfl | rfl <;> exact hge
/-- the words of a machine's NullPointerException, but the four that speak of the heap -/
def vx_atN (n : Nat) : List Cond := (Bundle.npeArmAtoms n).filter vx_no
/-- the words of a machine's throw with a message, but the four that speak of the heap -/
def vx_atM (X : String) (names : List String) : List Cond := (Bundle.messageArmAtoms X names).filter vx_no
section
variable {p : Program} {l : Launch} {e : Env} {R : Room} {s : State} {m : MethodId} {args : Array Value} {below : List Frame} {meth : Method} {c : Code} {H : Heap} {locs : List Loc} {cells slots : Nat}
/-- a frame seen from a rebased start, seen from the first start again -/
theorem vx_back9 {T S : State} {R' : Room} {k n : Nat} (X : Stand p l e R s m args below meth c T locs cells slots) (Y : Stand p l e R' ((T.setVm s.vm).setFrames (.invoking m args :: below)) m args below meth c T [] 0 0) (Z : Stand p l e R' ((T.setVm s.vm).setFrames (.invoking m args :: below)) m args below meth c S [] k n) :
    Stand p l e R s m args below meth c S locs (cells + k) (slots + n) := by
  have hW0 : s.WarmedH ((T.setVm s.vm).setFrames (.invoking m args :: below)).vm := State.WarmedH.refl s
  refine { admits := X.admits, cas := X.cas, clock := X.clock, frames := X.frames, room := X.room, hears := X.hears, method := X.method, code := X.code, here := Z.here, tail := Z.tail, warmed := State.WarmedH.trans hW0 Z.warmed, limits := Z.limits.trans (Y.limits.symm.trans X.limits), bytes := Z.bytes.trans (Y.bytes.symm.trans X.bytes), same := ?_ }
  obtain ⟨e1, e2⟩ := Z.same
  rw [State.setFrames_setFrames] at e1
  have h2 : (T.setVm s.vm).sameButNew (S.setVm s.vm) [] k n := ⟨e1, e2⟩
  have h3 := X.same.trans h2
  rw [List.append_nil] at h3
  exact h3
/-- from the machine's note that E is thrown here with this text -/
def vx_Note (p : Program) (l : Launch) (e : Env) (R : Room) (s : State) (m : MethodId) (args : Array Value) (below : List Frame) (meth : Method) (c : Code) (H : Heap) (locs : List Loc) (cells slots : Nat) (Q : State → Prop) (g : JFrame) (E text : String) : Prop :=
  ∀ T : State, T.heap = H → Stand p l e R s m args below meth c T locs cells slots → ∃ t, Steps p.tables e below ((T.setTop g).pushFrame (.throwNew E (some text) none)) t ∧ Q t
theorem vx_vm {pc : Nat} {ls : Array Slot} {rest : List Value} {Q : State → Prop} (hexec : p.tables.exec = Jvm.exec) (hl : l.stackTraces = false) {cls text : String} {names : List String} {nb : Nat} {A : Nat → Prop}
    (hcls : Bundle.fit cls = true) (hnames : ∀ n ∈ names, Bundle.fit n = true) (hsoe : (cls == "java/lang/StackOverflowError") = false) (hoom : (cls == "java/lang/OutOfMemoryError") = false)
    (hat : ∀ w ∈ vx_atM cls names, w.before args s = true) (hgood : ∀ w ∈ vx_atM cls names, vx_ot w = true)
    (hU : vx_Zq Bundle.tN "UNASSIGNED_STACK" Bundle.steD A s s.heap) (hN : vx_Zq Bundle.tN "SUPPRESSED_SENTINEL" Bundle.listD A s s.heap) (hS : va_S A s.heap H locs) (hsize : ls.size = c.maxLocals)
    (htext : (text == notModelled) = false) (hnb : (stringBytes (stringToUtf16 text)).size ≤ nb) (hnb1 : nb ≤ 1000)
    (hRframes : names.length + 4 < R.frames) (hRlocals : (rest.map fun v => v.category).sum + 10240 ≤ R.locals) (hshort : 13 * names.length + 55 ≤ 10240) (hRcells : cells + 3 ≤ R.cells) (hRslots : slots + (nb + 10) ≤ R.slots) (hlocks : meth.locks = false)
    (k : ∀ (H1 : Heap) (q9 : Addr) (ce : Cell), H.size ≤ H1.size → (∀ q : Nat, q < H.size → H1[q]? = H[q]?) → va_S A s.heap H1 locs → H1[q9]? = some ce → ce.vm = .none → s.vm.findClass cls = some ce.cls → vx_W p l e R s m args below meth c H1 locs (cells + 3) (slots + (nb + 10)) Q (F0 m pc ls rest) q9) :
    vx_Note p l e R s m args below meth c H locs cells slots Q (F0 m pc ls rest) cls text := by
  intro T hT X
  have htr : e.platform.stackTraces = false := (show e.platform.stackTraces = l.stackTraces by rw [X.admits.platform]).trans hl
  have Y := vx_rebase X (R' := { frames := R.frames, locals := R.locals, cells := 3, slots := nb + 10 }) (Nat.le_refl _) (Nat.le_refl _) hRcells hRslots
  have hhp : ((T.setVm s.vm).setFrames (.invoking m args :: below)).heap = H := hT
  have hW0 : s.WarmedH ((T.setVm s.vm).setFrames (.invoking m args :: below)).vm := State.WarmedH.refl s
  have hat' : ∀ w ∈ vx_atM cls names, w.before args ((T.setVm s.vm).setFrames (.invoking m args :: below)) = true := fun w hw => vx_ot_at hW0 rfl (hgood w hw) (hat w hw)
  have hU' : vx_Zq Bundle.tN "UNASSIGNED_STACK" Bundle.steD A ((T.setVm s.vm).setFrames (.invoking m args :: below)) ((T.setVm s.vm).setFrames (.invoking m args :: below)).heap := by rw [hhp]; exact vx_Zq.moved hW0.alike (hU.kept hS.2.1)
  have hN' : vx_Zq Bundle.tN "SUPPRESSED_SENTINEL" Bundle.listD A ((T.setVm s.vm).setFrames (.invoking m args :: below)) ((T.setVm s.vm).setFrames (.invoking m args :: below)).heap := by rw [hhp]; exact vx_Zq.moved hW0.alike (hN.kept hS.2.1)
  obtain ⟨S, q, ce, st, Z, hce, hcl', hv⟩ := vx_vmAt Y hexec htr (cls := cls) (names := names) (text := text) hcls hnames hsoe hoom (vx_own hat' (vx_isRefq hU'.1) (vx_isRefq hN'.1) hU'.2.word hN'.2.word) (fun x hx => nomatch hx) htext
    (by rw [Launch.admits_arrayLengthLimit X.admits]; omega) (by rw [Launch.admits_maxHeapBytes X.admits]; simp only [componentBytes]; omega)
    (g := F0 m pc ls rest) rfl hsize hRframes (by show 2 * 0 + (rest.map fun v => v.category).sum + 10240 ≤ R.locals; omega) hshort (by show 0 + 3 ≤ 3; omega) (by show 0 + (_ + 4 + 6) ≤ nb + 10; omega) hlocks
  obtain ⟨f1, f2⟩ := vx_frame Z.same
  have f1' : H.size ≤ S.heap.size := by rw [← hT]; exact f1
  have f2' : ∀ q : Nat, q < H.size → S.heap[q]? = H[q]? := fun q hq => by
    rw [← hT]
    exact f2 q (by rw [← hT] at hq; exact hq) (fun z hz => nomatch hz)
  have X5 := vx_back9 X Y Z
  have X6 : Stand p l e R s m args below meth c S locs (cells + 3) (slots + (nb + 10)) := { X5 with same := X5.same.mono (by omega) (by omega) }
  obtain ⟨t, a1, b1⟩ := k S.heap q ce f1' f2' ⟨Nat.le_trans hS.1 f1', fun q h1 h2 => (f2' q (Nat.lt_of_lt_of_le h1 hS.1)).trans (hS.2.1 q h1 h2), hS.2.2⟩ hce hv hcl' S rfl X6
  exact ⟨t, st t a1, b1⟩
/-- from the machine's note that NullPointerException is thrown here -/
def vx_NoteN (p : Program) (l : Launch) (e : Env) (R : Room) (s : State) (m : MethodId) (args : Array Value) (below : List Frame) (meth : Method) (c : Code) (H : Heap) (locs : List Loc) (cells slots : Nat) (Q : State → Prop) (g : JFrame) : Prop :=
  ∀ T : State, T.heap = H → Stand p l e R s m args below meth c T locs cells slots → ∃ t, Steps p.tables e below ((T.setTop g).pushFrame (.throwNew "java/lang/NullPointerException" none none)) t ∧ Q t
theorem vx_npe {pc : Nat} {ls : Array Slot} {rest : List Value} {Q : State → Prop} (hexec : p.tables.exec = Jvm.exec) (hl : l.stackTraces = false) {nb : Nat} {A : Nat → Prop}
    (hat : ∀ w ∈ vx_atN nb, w.before args s = true) (hgood : ∀ w ∈ vx_atN nb, vx_ot w = true)
    (hU : vx_Zq Bundle.tN "UNASSIGNED_STACK" Bundle.steD A s s.heap) (hN : vx_Zq Bundle.tN "SUPPRESSED_SENTINEL" Bundle.listD A s s.heap) (hS : va_S A s.heap H locs) (hsize : ls.size = c.maxLocals)
    (hRframes : 7 < R.frames) (hRlocals : (rest.map fun v => v.category).sum + 10240 ≤ R.locals) (hRcells : cells + 1 ≤ R.cells) (hRslots : slots + nb ≤ R.slots) (hlocks : meth.locks = false)
    (k : ∀ (H1 : Heap) (q9 : Addr) (ce : Cell), H.size ≤ H1.size → (∀ q : Nat, q < H.size → H1[q]? = H[q]?) → va_S A s.heap H1 locs → H1[q9]? = some ce → ce.vm = .none → s.vm.findClass "java/lang/NullPointerException" = some ce.cls → vx_W p l e R s m args below meth c H1 locs (cells + 1) (slots + nb) Q (F0 m pc ls rest) q9) :
    vx_NoteN p l e R s m args below meth c H locs cells slots Q (F0 m pc ls rest) := by
  intro T hT X
  have htr : e.platform.stackTraces = false := (show e.platform.stackTraces = l.stackTraces by rw [X.admits.platform]).trans hl
  have Y := vx_rebase X (R' := { frames := R.frames, locals := R.locals, cells := 1, slots := nb }) (Nat.le_refl _) (Nat.le_refl _) hRcells hRslots
  have hhp : ((T.setVm s.vm).setFrames (.invoking m args :: below)).heap = H := hT
  have hW0 : s.WarmedH ((T.setVm s.vm).setFrames (.invoking m args :: below)).vm := State.WarmedH.refl s
  have hat' : ∀ w ∈ vx_atN nb, w.before args ((T.setVm s.vm).setFrames (.invoking m args :: below)) = true := fun w hw => vx_ot_at hW0 rfl (hgood w hw) (hat w hw)
  have hU' : vx_Zq Bundle.tN "UNASSIGNED_STACK" Bundle.steD A ((T.setVm s.vm).setFrames (.invoking m args :: below)) ((T.setVm s.vm).setFrames (.invoking m args :: below)).heap := by rw [hhp]; exact vx_Zq.moved hW0.alike (hU.kept hS.2.1)
  have hN' : vx_Zq Bundle.tN "SUPPRESSED_SENTINEL" Bundle.listD A ((T.setVm s.vm).setFrames (.invoking m args :: below)) ((T.setVm s.vm).setFrames (.invoking m args :: below)).heap := by rw [hhp]; exact vx_Zq.moved hW0.alike (hN.kept hS.2.1)
  obtain ⟨S, q, ce, st, Z, hce, hcl', hv⟩ := vx_npeAt Y hexec htr (n := nb) (vx_own hat' (vx_isRefq hU'.1) (vx_isRefq hN'.1) hU'.2.word hN'.2.word) (fun x hx => nomatch hx)
    (g := F0 m pc ls rest) rfl hsize hRframes (by show 2 * 0 + (rest.map fun v => v.category).sum + 10240 ≤ R.locals; omega) (by show 0 + 1 ≤ 1; omega) (by show 0 + nb ≤ nb; omega) hlocks
  obtain ⟨f1, f2⟩ := vx_frame Z.same
  have f1' : H.size ≤ S.heap.size := by rw [← hT]; exact f1
  have f2' : ∀ q : Nat, q < H.size → S.heap[q]? = H[q]? := fun q hq => by
    rw [← hT]
    exact f2 q (by rw [← hT] at hq; exact hq) (fun z hz => nomatch hz)
  have X5 := vx_back9 X Y Z
  have X6 : Stand p l e R s m args below meth c S locs (cells + 1) (slots + nb) := { X5 with same := X5.same.mono (by omega) (by omega) }
  obtain ⟨t, a1, b1⟩ := k S.heap q ce f1' f2' ⟨Nat.le_trans hS.1 f1', fun q h1 h2 => (f2' q (Nat.lt_of_lt_of_le h1 hS.1)).trans (hS.2.1 q h1 h2), hS.2.2⟩ hce hv hcl' S rfl X6
  exact ⟨t, st t a1, b1⟩
variable {Q : State → Prop} {cc : ByteArray} {pc : Nat} {ls : Array Slot} {rest : List Value}
theorem vx_idivZ (hexec : p.tables.exec = Jvm.exec) (hb : c.code = cc) {a b : Int32} (h0 : b = 0) (d : decode cc pc = .ok (.idiv, 1)) (k : vx_Note p l e R s m args below meth c H locs cells slots Q (F0 m pc ls rest) "java/lang/ArithmeticException" "/ by zero") :
    W p l e R s m args below meth c H locs cells slots Q (F0 m pc ls (.int b :: .int a :: rest)) := by
  intro T hT X
  obtain ⟨t, st, q⟩ := k T hT X
  exact ⟨t, X.idivZero hexec (g := F0 m pc ls (.int b :: .int a :: rest)) rfl (a := a) (rest := rest) (by rw [h0]) (by rw [hb]; exact d) t st, q⟩
theorem vx_iremZ (hexec : p.tables.exec = Jvm.exec) (hb : c.code = cc) {a b : Int32} (h0 : b = 0) (d : decode cc pc = .ok (.irem, 1)) (k : vx_Note p l e R s m args below meth c H locs cells slots Q (F0 m pc ls rest) "java/lang/ArithmeticException" "/ by zero") :
    W p l e R s m args below meth c H locs cells slots Q (F0 m pc ls (.int b :: .int a :: rest)) := by
  intro T hT X
  obtain ⟨t, st, q⟩ := k T hT X
  exact ⟨t, X.iremZero hexec (g := F0 m pc ls (.int b :: .int a :: rest)) rfl (a := a) (rest := rest) (by rw [h0]) (by rw [hb]; exact d) t st, q⟩
theorem vx_ldivZ (hexec : p.tables.exec = Jvm.exec) (hb : c.code = cc) {a b : Int64} (h0 : b = 0) (d : decode cc pc = .ok (.ldiv, 1)) (k : vx_Note p l e R s m args below meth c H locs cells slots Q (F0 m pc ls rest) "java/lang/ArithmeticException" "/ by zero") :
    W p l e R s m args below meth c H locs cells slots Q (F0 m pc ls (.long b :: .long a :: rest)) := by
  intro T hT X
  obtain ⟨t, st, q⟩ := k T hT X
  exact ⟨t, X.ldivZero hexec (g := F0 m pc ls (.long b :: .long a :: rest)) rfl (a := a) (rest := rest) (by rw [h0]) (by rw [hb]; exact d) t st, q⟩
theorem vx_lremZ (hexec : p.tables.exec = Jvm.exec) (hb : c.code = cc) {a b : Int64} (h0 : b = 0) (d : decode cc pc = .ok (.lrem, 1)) (k : vx_Note p l e R s m args below meth c H locs cells slots Q (F0 m pc ls rest) "java/lang/ArithmeticException" "/ by zero") :
    W p l e R s m args below meth c H locs cells slots Q (F0 m pc ls (.long b :: .long a :: rest)) := by
  intro T hT X
  obtain ⟨t, st, q⟩ := k T hT X
  exact ⟨t, X.lremZero hexec (g := F0 m pc ls (.long b :: .long a :: rest)) rfl (a := a) (rest := rest) (by rw [h0]) (by rw [hb]; exact d) t st, q⟩
theorem vx_ialdZ {D : va_G} {cl : List vw_C} {ws : va_W} {tys : List (ClassId × FieldType)} {a : Nat} (hexec : p.tables.exec = Jvm.exec) (hb : c.code = cc) (hK : va_K D cl tys s) (hP : va_P D cl ws H) (q0 t0 : Nat) {cA : ClassId} {n : Nat} {f : Nat → Int32} (ha : ws[q0]? = some (a, .inl (cA, n, .inl f))) (ht : tys[t0]? = some (cA, .int)) {i : Int32} (hout : ¬ vp_in i n) (hdg : decode cc pc = .ok (.iaload, 1))
    (k : ∀ tx : String, tx = (toString "Index " ++ toString i ++ toString " out of bounds for length " ++ toString n : String) → vx_Note p l e R s m args below meth c H locs cells slots Q (F0 m pc ls rest) "java/lang/ArrayIndexOutOfBoundsException" tx) : W p l e R s m args below meth c H locs cells slots Q (F0 m pc ls (.int i :: .ref a :: rest)) := by
  intro T hT X
  obtain ⟨t, st, q⟩ := k _ rfl T hT X
  refine ⟨t, ?_, q⟩
  have h1 := X.ialoadOut hexec (by rw [hT]; exact hP q0 _ ha) ((hK.2 t0 _ ht).1 n (fun j => .int (f j))) (j := i) (by show (i < 0 ∨ (arrV _ _ _).slots.size ≤ _); rw [arrV_size]; exact Classical.byContradiction hout) (g := F0 m pc ls (.int i :: .ref a :: rest)) rfl (rest := rest) rfl (by rw [hb]; exact hdg) t
  simp only [arrV_size] at h1
  exact h1 st
theorem vx_iastZ {D : va_G} {cl : List vw_C} {ws : va_W} {tys : List (ClassId × FieldType)} {a : Nat} (hexec : p.tables.exec = Jvm.exec) (hb : c.code = cc) (hK : va_K D cl tys s) (hP : va_P D cl ws H) (q0 t0 : Nat) {cA : ClassId} {n : Nat} {f : Nat → Int32} (ha : ws[q0]? = some (a, .inl (cA, n, .inl f))) (ht : tys[t0]? = some (cA, .int)) {i : Int32} {x : Int32} (hout : ¬ vp_in i n) (hdg : decode cc pc = .ok (.iastore, 1))
    (k : ∀ tx : String, tx = (toString "Index " ++ toString i ++ toString " out of bounds for length " ++ toString n : String) → vx_Note p l e R s m args below meth c H locs cells slots Q (F0 m pc ls rest) "java/lang/ArrayIndexOutOfBoundsException" tx) : W p l e R s m args below meth c H locs cells slots Q (F0 m pc ls (.int x :: .int i :: .ref a :: rest)) := by
  intro T hT X
  obtain ⟨t, st, q⟩ := k _ rfl T hT X
  refine ⟨t, ?_, q⟩
  have h1 := X.iastoreOut hexec (by rw [hT]; exact hP q0 _ ha) ((hK.2 t0 _ ht).1 n (fun j => .int (f j))) (j := i) (by show (i < 0 ∨ (arrV _ _ _).slots.size ≤ _); rw [arrV_size]; exact Classical.byContradiction hout) (g := F0 m pc ls (.int x :: .int i :: .ref a :: rest)) rfl (rest := rest) rfl (by rw [hb]; exact hdg) t
  simp only [arrV_size] at h1
  exact h1 st
theorem vx_baldZ {D : va_G} {cl : List vw_C} {ws : va_W} {tys : List (ClassId × FieldType)} {a : Nat} (hexec : p.tables.exec = Jvm.exec) (hb : c.code = cc) (hK : va_K D cl tys s) (hP : va_P D cl ws H) (q0 t0 : Nat) {cA : ClassId} {n : Nat} {f : Nat → Int32} (ha : ws[q0]? = some (a, .inl (cA, n, .inl f))) (ht : tys[t0]? = some (cA, .byte)) {i : Int32} (hout : ¬ vp_in i n) (hdg : decode cc pc = .ok (.baload, 1))
    (k : ∀ tx : String, tx = (toString "Index " ++ toString i ++ toString " out of bounds for length " ++ toString n : String) → vx_Note p l e R s m args below meth c H locs cells slots Q (F0 m pc ls rest) "java/lang/ArrayIndexOutOfBoundsException" tx) : W p l e R s m args below meth c H locs cells slots Q (F0 m pc ls (.int i :: .ref a :: rest)) := by
  intro T hT X
  obtain ⟨t, st, q⟩ := k _ rfl T hT X
  refine ⟨t, ?_, q⟩
  have h1 := X.baloadOut hexec (by rw [hT]; exact hP q0 _ ha) ((hK.2 t0 _ ht).1 n (fun j => .int (f j))) (j := i) (by show (i < 0 ∨ (arrV _ _ _).slots.size ≤ _); rw [arrV_size]; exact Classical.byContradiction hout) (g := F0 m pc ls (.int i :: .ref a :: rest)) rfl (rest := rest) rfl (by rw [hb]; exact hdg) t
  simp only [arrV_size] at h1
  exact h1 st
theorem vx_bastZ {D : va_G} {cl : List vw_C} {ws : va_W} {tys : List (ClassId × FieldType)} {a : Nat} (hexec : p.tables.exec = Jvm.exec) (hb : c.code = cc) (hK : va_K D cl tys s) (hP : va_P D cl ws H) (q0 t0 : Nat) {cA : ClassId} {n : Nat} {f : Nat → Int32} (ha : ws[q0]? = some (a, .inl (cA, n, .inl f))) (ht : tys[t0]? = some (cA, .byte)) {i : Int32} {x : Int32} (hout : ¬ vp_in i n) (hdg : decode cc pc = .ok (.bastore, 1))
    (k : ∀ tx : String, tx = (toString "Index " ++ toString i ++ toString " out of bounds for length " ++ toString n : String) → vx_Note p l e R s m args below meth c H locs cells slots Q (F0 m pc ls rest) "java/lang/ArrayIndexOutOfBoundsException" tx) : W p l e R s m args below meth c H locs cells slots Q (F0 m pc ls (.int x :: .int i :: .ref a :: rest)) := by
  intro T hT X
  obtain ⟨t, st, q⟩ := k _ rfl T hT X
  refine ⟨t, ?_, q⟩
  have h1 := X.bastoreOut hexec (by rw [hT]; exact hP q0 _ ha) ((hK.2 t0 _ ht).1 n (fun j => .int (f j))) (j := i) (by show (i < 0 ∨ (arrV _ _ _).slots.size ≤ _); rw [arrV_size]; exact Classical.byContradiction hout) (g := F0 m pc ls (.int x :: .int i :: .ref a :: rest)) rfl (rest := rest) rfl (by rw [hb]; exact hdg) t
  simp only [arrV_size] at h1
  exact h1 st
theorem vx_zaldZ {D : va_G} {cl : List vw_C} {ws : va_W} {tys : List (ClassId × FieldType)} {a : Nat} (hexec : p.tables.exec = Jvm.exec) (hb : c.code = cc) (hK : va_K D cl tys s) (hP : va_P D cl ws H) (q0 t0 : Nat) {cA : ClassId} {n : Nat} {f : Nat → Int32} (ha : ws[q0]? = some (a, .inl (cA, n, .inl f))) (ht : tys[t0]? = some (cA, .boolean)) {i : Int32} (hout : ¬ vp_in i n) (hdg : decode cc pc = .ok (.baload, 1))
    (k : ∀ tx : String, tx = (toString "Index " ++ toString i ++ toString " out of bounds for length " ++ toString n : String) → vx_Note p l e R s m args below meth c H locs cells slots Q (F0 m pc ls rest) "java/lang/ArrayIndexOutOfBoundsException" tx) : W p l e R s m args below meth c H locs cells slots Q (F0 m pc ls (.int i :: .ref a :: rest)) := by
  intro T hT X
  obtain ⟨t, st, q⟩ := k _ rfl T hT X
  refine ⟨t, ?_, q⟩
  have h1 := X.baloadOut hexec (by rw [hT]; exact hP q0 _ ha) ((hK.2 t0 _ ht).1 n (fun j => .int (f j))) (j := i) (by show (i < 0 ∨ (arrV _ _ _).slots.size ≤ _); rw [arrV_size]; exact Classical.byContradiction hout) (g := F0 m pc ls (.int i :: .ref a :: rest)) rfl (rest := rest) rfl (by rw [hb]; exact hdg) t
  simp only [arrV_size] at h1
  exact h1 st
theorem vx_zastZ {D : va_G} {cl : List vw_C} {ws : va_W} {tys : List (ClassId × FieldType)} {a : Nat} (hexec : p.tables.exec = Jvm.exec) (hb : c.code = cc) (hK : va_K D cl tys s) (hP : va_P D cl ws H) (q0 t0 : Nat) {cA : ClassId} {n : Nat} {f : Nat → Int32} (ha : ws[q0]? = some (a, .inl (cA, n, .inl f))) (ht : tys[t0]? = some (cA, .boolean)) {i : Int32} {x : Int32} (hout : ¬ vp_in i n) (hdg : decode cc pc = .ok (.bastore, 1))
    (k : ∀ tx : String, tx = (toString "Index " ++ toString i ++ toString " out of bounds for length " ++ toString n : String) → vx_Note p l e R s m args below meth c H locs cells slots Q (F0 m pc ls rest) "java/lang/ArrayIndexOutOfBoundsException" tx) : W p l e R s m args below meth c H locs cells slots Q (F0 m pc ls (.int x :: .int i :: .ref a :: rest)) := by
  intro T hT X
  obtain ⟨t, st, q⟩ := k _ rfl T hT X
  refine ⟨t, ?_, q⟩
  have h1 := X.bastoreOut hexec (by rw [hT]; exact hP q0 _ ha) ((hK.2 t0 _ ht).1 n (fun j => .int (f j))) (j := i) (by show (i < 0 ∨ (arrV _ _ _).slots.size ≤ _); rw [arrV_size]; exact Classical.byContradiction hout) (g := F0 m pc ls (.int x :: .int i :: .ref a :: rest)) rfl (rest := rest) rfl (by rw [hb]; exact hdg) t
  simp only [arrV_size] at h1
  exact h1 st
theorem vx_caldZ {D : va_G} {cl : List vw_C} {ws : va_W} {tys : List (ClassId × FieldType)} {a : Nat} (hexec : p.tables.exec = Jvm.exec) (hb : c.code = cc) (hK : va_K D cl tys s) (hP : va_P D cl ws H) (q0 t0 : Nat) {cA : ClassId} {n : Nat} {f : Nat → Int32} (ha : ws[q0]? = some (a, .inl (cA, n, .inl f))) (ht : tys[t0]? = some (cA, .char)) {i : Int32} (hout : ¬ vp_in i n) (hdg : decode cc pc = .ok (.caload, 1))
    (k : ∀ tx : String, tx = (toString "Index " ++ toString i ++ toString " out of bounds for length " ++ toString n : String) → vx_Note p l e R s m args below meth c H locs cells slots Q (F0 m pc ls rest) "java/lang/ArrayIndexOutOfBoundsException" tx) : W p l e R s m args below meth c H locs cells slots Q (F0 m pc ls (.int i :: .ref a :: rest)) := by
  intro T hT X
  obtain ⟨t, st, q⟩ := k _ rfl T hT X
  refine ⟨t, ?_, q⟩
  have h1 := X.caloadOut hexec (by rw [hT]; exact hP q0 _ ha) ((hK.2 t0 _ ht).1 n (fun j => .int (f j))) (j := i) (by show (i < 0 ∨ (arrV _ _ _).slots.size ≤ _); rw [arrV_size]; exact Classical.byContradiction hout) (g := F0 m pc ls (.int i :: .ref a :: rest)) rfl (rest := rest) rfl (by rw [hb]; exact hdg) t
  simp only [arrV_size] at h1
  exact h1 st
theorem vx_castZ {D : va_G} {cl : List vw_C} {ws : va_W} {tys : List (ClassId × FieldType)} {a : Nat} (hexec : p.tables.exec = Jvm.exec) (hb : c.code = cc) (hK : va_K D cl tys s) (hP : va_P D cl ws H) (q0 t0 : Nat) {cA : ClassId} {n : Nat} {f : Nat → Int32} (ha : ws[q0]? = some (a, .inl (cA, n, .inl f))) (ht : tys[t0]? = some (cA, .char)) {i : Int32} {x : Int32} (hout : ¬ vp_in i n) (hdg : decode cc pc = .ok (.castore, 1))
    (k : ∀ tx : String, tx = (toString "Index " ++ toString i ++ toString " out of bounds for length " ++ toString n : String) → vx_Note p l e R s m args below meth c H locs cells slots Q (F0 m pc ls rest) "java/lang/ArrayIndexOutOfBoundsException" tx) : W p l e R s m args below meth c H locs cells slots Q (F0 m pc ls (.int x :: .int i :: .ref a :: rest)) := by
  intro T hT X
  obtain ⟨t, st, q⟩ := k _ rfl T hT X
  refine ⟨t, ?_, q⟩
  have h1 := X.castoreOut hexec (by rw [hT]; exact hP q0 _ ha) ((hK.2 t0 _ ht).1 n (fun j => .int (f j))) (j := i) (by show (i < 0 ∨ (arrV _ _ _).slots.size ≤ _); rw [arrV_size]; exact Classical.byContradiction hout) (g := F0 m pc ls (.int x :: .int i :: .ref a :: rest)) rfl (rest := rest) rfl (by rw [hb]; exact hdg) t
  simp only [arrV_size] at h1
  exact h1 st
theorem vx_saldZ {D : va_G} {cl : List vw_C} {ws : va_W} {tys : List (ClassId × FieldType)} {a : Nat} (hexec : p.tables.exec = Jvm.exec) (hb : c.code = cc) (hK : va_K D cl tys s) (hP : va_P D cl ws H) (q0 t0 : Nat) {cA : ClassId} {n : Nat} {f : Nat → Int32} (ha : ws[q0]? = some (a, .inl (cA, n, .inl f))) (ht : tys[t0]? = some (cA, .short)) {i : Int32} (hout : ¬ vp_in i n) (hdg : decode cc pc = .ok (.saload, 1))
    (k : ∀ tx : String, tx = (toString "Index " ++ toString i ++ toString " out of bounds for length " ++ toString n : String) → vx_Note p l e R s m args below meth c H locs cells slots Q (F0 m pc ls rest) "java/lang/ArrayIndexOutOfBoundsException" tx) : W p l e R s m args below meth c H locs cells slots Q (F0 m pc ls (.int i :: .ref a :: rest)) := by
  intro T hT X
  obtain ⟨t, st, q⟩ := k _ rfl T hT X
  refine ⟨t, ?_, q⟩
  have h1 := X.saloadOut hexec (by rw [hT]; exact hP q0 _ ha) ((hK.2 t0 _ ht).1 n (fun j => .int (f j))) (j := i) (by show (i < 0 ∨ (arrV _ _ _).slots.size ≤ _); rw [arrV_size]; exact Classical.byContradiction hout) (g := F0 m pc ls (.int i :: .ref a :: rest)) rfl (rest := rest) rfl (by rw [hb]; exact hdg) t
  simp only [arrV_size] at h1
  exact h1 st
theorem vx_sastZ {D : va_G} {cl : List vw_C} {ws : va_W} {tys : List (ClassId × FieldType)} {a : Nat} (hexec : p.tables.exec = Jvm.exec) (hb : c.code = cc) (hK : va_K D cl tys s) (hP : va_P D cl ws H) (q0 t0 : Nat) {cA : ClassId} {n : Nat} {f : Nat → Int32} (ha : ws[q0]? = some (a, .inl (cA, n, .inl f))) (ht : tys[t0]? = some (cA, .short)) {i : Int32} {x : Int32} (hout : ¬ vp_in i n) (hdg : decode cc pc = .ok (.sastore, 1))
    (k : ∀ tx : String, tx = (toString "Index " ++ toString i ++ toString " out of bounds for length " ++ toString n : String) → vx_Note p l e R s m args below meth c H locs cells slots Q (F0 m pc ls rest) "java/lang/ArrayIndexOutOfBoundsException" tx) : W p l e R s m args below meth c H locs cells slots Q (F0 m pc ls (.int x :: .int i :: .ref a :: rest)) := by
  intro T hT X
  obtain ⟨t, st, q⟩ := k _ rfl T hT X
  refine ⟨t, ?_, q⟩
  have h1 := X.sastoreOut hexec (by rw [hT]; exact hP q0 _ ha) ((hK.2 t0 _ ht).1 n (fun j => .int (f j))) (j := i) (by show (i < 0 ∨ (arrV _ _ _).slots.size ≤ _); rw [arrV_size]; exact Classical.byContradiction hout) (g := F0 m pc ls (.int x :: .int i :: .ref a :: rest)) rfl (rest := rest) rfl (by rw [hb]; exact hdg) t
  simp only [arrV_size] at h1
  exact h1 st
theorem vx_laldZ {D : va_G} {cl : List vw_C} {ws : va_W} {tys : List (ClassId × FieldType)} {a : Nat} (hexec : p.tables.exec = Jvm.exec) (hb : c.code = cc) (hK : va_K D cl tys s) (hP : va_P D cl ws H) (q0 t0 : Nat) {cA : ClassId} {n : Nat} {f : Nat → Int64} (ha : ws[q0]? = some (a, .inl (cA, n, .inr (.inl f)))) (ht : tys[t0]? = some (cA, .long)) {i : Int32} (hout : ¬ vp_in i n) (hdg : decode cc pc = .ok (.laload, 1))
    (k : ∀ tx : String, tx = (toString "Index " ++ toString i ++ toString " out of bounds for length " ++ toString n : String) → vx_Note p l e R s m args below meth c H locs cells slots Q (F0 m pc ls rest) "java/lang/ArrayIndexOutOfBoundsException" tx) : W p l e R s m args below meth c H locs cells slots Q (F0 m pc ls (.int i :: .ref a :: rest)) := by
  intro T hT X
  obtain ⟨t, st, q⟩ := k _ rfl T hT X
  refine ⟨t, ?_, q⟩
  have h1 := X.laloadOut hexec (by rw [hT]; exact hP q0 _ ha) ((hK.2 t0 _ ht).1 n (fun j => .long (f j))) (j := i) (by show (i < 0 ∨ (arrV _ _ _).slots.size ≤ _); rw [arrV_size]; exact Classical.byContradiction hout) (g := F0 m pc ls (.int i :: .ref a :: rest)) rfl (rest := rest) rfl (by rw [hb]; exact hdg) t
  simp only [arrV_size] at h1
  exact h1 st
theorem vx_lastZ {D : va_G} {cl : List vw_C} {ws : va_W} {tys : List (ClassId × FieldType)} {a : Nat} (hexec : p.tables.exec = Jvm.exec) (hb : c.code = cc) (hK : va_K D cl tys s) (hP : va_P D cl ws H) (q0 t0 : Nat) {cA : ClassId} {n : Nat} {f : Nat → Int64} (ha : ws[q0]? = some (a, .inl (cA, n, .inr (.inl f)))) (ht : tys[t0]? = some (cA, .long)) {i : Int32} {x : Int64} (hout : ¬ vp_in i n) (hdg : decode cc pc = .ok (.lastore, 1))
    (k : ∀ tx : String, tx = (toString "Index " ++ toString i ++ toString " out of bounds for length " ++ toString n : String) → vx_Note p l e R s m args below meth c H locs cells slots Q (F0 m pc ls rest) "java/lang/ArrayIndexOutOfBoundsException" tx) : W p l e R s m args below meth c H locs cells slots Q (F0 m pc ls (.long x :: .int i :: .ref a :: rest)) := by
  intro T hT X
  obtain ⟨t, st, q⟩ := k _ rfl T hT X
  refine ⟨t, ?_, q⟩
  have h1 := X.lastoreOut hexec (by rw [hT]; exact hP q0 _ ha) ((hK.2 t0 _ ht).1 n (fun j => .long (f j))) (j := i) (by show (i < 0 ∨ (arrV _ _ _).slots.size ≤ _); rw [arrV_size]; exact Classical.byContradiction hout) (g := F0 m pc ls (.long x :: .int i :: .ref a :: rest)) rfl (rest := rest) rfl (by rw [hb]; exact hdg) t
  simp only [arrV_size] at h1
  exact h1 st
theorem vx_faldZ {D : va_G} {cl : List vw_C} {ws : va_W} {tys : List (ClassId × FieldType)} {a : Nat} (hexec : p.tables.exec = Jvm.exec) (hb : c.code = cc) (hK : va_K D cl tys s) (hP : va_P D cl ws H) (q0 t0 : Nat) {cA : ClassId} {n : Nat} {f : Nat → UInt32} (ha : ws[q0]? = some (a, .inl (cA, n, .inr (.inr (.inl f))))) (ht : tys[t0]? = some (cA, .float)) {i : Int32} (hout : ¬ vp_in i n) (hdg : decode cc pc = .ok (.faload, 1))
    (k : ∀ tx : String, tx = (toString "Index " ++ toString i ++ toString " out of bounds for length " ++ toString n : String) → vx_Note p l e R s m args below meth c H locs cells slots Q (F0 m pc ls rest) "java/lang/ArrayIndexOutOfBoundsException" tx) : W p l e R s m args below meth c H locs cells slots Q (F0 m pc ls (.int i :: .ref a :: rest)) := by
  intro T hT X
  obtain ⟨t, st, q⟩ := k _ rfl T hT X
  refine ⟨t, ?_, q⟩
  have h1 := X.faloadOut hexec (by rw [hT]; exact hP q0 _ ha) ((hK.2 t0 _ ht).1 n (fun j => .float (f j))) (j := i) (by show (i < 0 ∨ (arrV _ _ _).slots.size ≤ _); rw [arrV_size]; exact Classical.byContradiction hout) (g := F0 m pc ls (.int i :: .ref a :: rest)) rfl (rest := rest) rfl (by rw [hb]; exact hdg) t
  simp only [arrV_size] at h1
  exact h1 st
theorem vx_fastZ {D : va_G} {cl : List vw_C} {ws : va_W} {tys : List (ClassId × FieldType)} {a : Nat} (hexec : p.tables.exec = Jvm.exec) (hb : c.code = cc) (hK : va_K D cl tys s) (hP : va_P D cl ws H) (q0 t0 : Nat) {cA : ClassId} {n : Nat} {f : Nat → UInt32} (ha : ws[q0]? = some (a, .inl (cA, n, .inr (.inr (.inl f))))) (ht : tys[t0]? = some (cA, .float)) {i : Int32} {x : UInt32} (hout : ¬ vp_in i n) (hdg : decode cc pc = .ok (.fastore, 1))
    (k : ∀ tx : String, tx = (toString "Index " ++ toString i ++ toString " out of bounds for length " ++ toString n : String) → vx_Note p l e R s m args below meth c H locs cells slots Q (F0 m pc ls rest) "java/lang/ArrayIndexOutOfBoundsException" tx) : W p l e R s m args below meth c H locs cells slots Q (F0 m pc ls (.float x :: .int i :: .ref a :: rest)) := by
  intro T hT X
  obtain ⟨t, st, q⟩ := k _ rfl T hT X
  refine ⟨t, ?_, q⟩
  have h1 := X.fastoreOut hexec (by rw [hT]; exact hP q0 _ ha) ((hK.2 t0 _ ht).1 n (fun j => .float (f j))) (j := i) (by show (i < 0 ∨ (arrV _ _ _).slots.size ≤ _); rw [arrV_size]; exact Classical.byContradiction hout) (g := F0 m pc ls (.float x :: .int i :: .ref a :: rest)) rfl (rest := rest) rfl (by rw [hb]; exact hdg) t
  simp only [arrV_size] at h1
  exact h1 st
theorem vx_daldZ {D : va_G} {cl : List vw_C} {ws : va_W} {tys : List (ClassId × FieldType)} {a : Nat} (hexec : p.tables.exec = Jvm.exec) (hb : c.code = cc) (hK : va_K D cl tys s) (hP : va_P D cl ws H) (q0 t0 : Nat) {cA : ClassId} {n : Nat} {f : Nat → UInt64} (ha : ws[q0]? = some (a, .inl (cA, n, .inr (.inr (.inr (.inl f)))))) (ht : tys[t0]? = some (cA, .double)) {i : Int32} (hout : ¬ vp_in i n) (hdg : decode cc pc = .ok (.daload, 1))
    (k : ∀ tx : String, tx = (toString "Index " ++ toString i ++ toString " out of bounds for length " ++ toString n : String) → vx_Note p l e R s m args below meth c H locs cells slots Q (F0 m pc ls rest) "java/lang/ArrayIndexOutOfBoundsException" tx) : W p l e R s m args below meth c H locs cells slots Q (F0 m pc ls (.int i :: .ref a :: rest)) := by
  intro T hT X
  obtain ⟨t, st, q⟩ := k _ rfl T hT X
  refine ⟨t, ?_, q⟩
  have h1 := X.daloadOut hexec (by rw [hT]; exact hP q0 _ ha) ((hK.2 t0 _ ht).1 n (fun j => .double (f j))) (j := i) (by show (i < 0 ∨ (arrV _ _ _).slots.size ≤ _); rw [arrV_size]; exact Classical.byContradiction hout) (g := F0 m pc ls (.int i :: .ref a :: rest)) rfl (rest := rest) rfl (by rw [hb]; exact hdg) t
  simp only [arrV_size] at h1
  exact h1 st
theorem vx_dastZ {D : va_G} {cl : List vw_C} {ws : va_W} {tys : List (ClassId × FieldType)} {a : Nat} (hexec : p.tables.exec = Jvm.exec) (hb : c.code = cc) (hK : va_K D cl tys s) (hP : va_P D cl ws H) (q0 t0 : Nat) {cA : ClassId} {n : Nat} {f : Nat → UInt64} (ha : ws[q0]? = some (a, .inl (cA, n, .inr (.inr (.inr (.inl f)))))) (ht : tys[t0]? = some (cA, .double)) {i : Int32} {x : UInt64} (hout : ¬ vp_in i n) (hdg : decode cc pc = .ok (.dastore, 1))
    (k : ∀ tx : String, tx = (toString "Index " ++ toString i ++ toString " out of bounds for length " ++ toString n : String) → vx_Note p l e R s m args below meth c H locs cells slots Q (F0 m pc ls rest) "java/lang/ArrayIndexOutOfBoundsException" tx) : W p l e R s m args below meth c H locs cells slots Q (F0 m pc ls (.double x :: .int i :: .ref a :: rest)) := by
  intro T hT X
  obtain ⟨t, st, q⟩ := k _ rfl T hT X
  refine ⟨t, ?_, q⟩
  have h1 := X.dastoreOut hexec (by rw [hT]; exact hP q0 _ ha) ((hK.2 t0 _ ht).1 n (fun j => .double (f j))) (j := i) (by show (i < 0 ∨ (arrV _ _ _).slots.size ≤ _); rw [arrV_size]; exact Classical.byContradiction hout) (g := F0 m pc ls (.double x :: .int i :: .ref a :: rest)) rfl (rest := rest) rfl (by rw [hb]; exact hdg) t
  simp only [arrV_size] at h1
  exact h1 st
theorem vx_arraylengthN (hexec : p.tables.exec = Jvm.exec) (hb : c.code = cc) (hdg : decode cc pc = .ok (.arraylength, 1)) (k : vx_NoteN p l e R s m args below meth c H locs cells slots Q (F0 m pc ls rest)) : W p l e R s m args below meth c H locs cells slots Q (F0 m pc ls (.null :: rest)) := by
  intro T hT X
  obtain ⟨t, st, q⟩ := k T hT X
  exact ⟨t, X.arraylengthNull hexec (g := F0 m pc ls (.null :: rest)) rfl (rest := rest) rfl (by rw [hb]; exact hdg) t st, q⟩
theorem vx_ialoadN (hexec : p.tables.exec = Jvm.exec) (hb : c.code = cc) {i : Int32} (hdg : decode cc pc = .ok (.iaload, 1)) (k : vx_NoteN p l e R s m args below meth c H locs cells slots Q (F0 m pc ls rest)) : W p l e R s m args below meth c H locs cells slots Q (F0 m pc ls (.int i :: .null :: rest)) := by
  intro T hT X
  obtain ⟨t, st, q⟩ := k T hT X
  exact ⟨t, X.ialoadNull hexec (g := F0 m pc ls (.int i :: .null :: rest)) rfl (rest := rest) rfl (by rw [hb]; exact hdg) t st, q⟩
theorem vx_laloadN (hexec : p.tables.exec = Jvm.exec) (hb : c.code = cc) {i : Int32} (hdg : decode cc pc = .ok (.laload, 1)) (k : vx_NoteN p l e R s m args below meth c H locs cells slots Q (F0 m pc ls rest)) : W p l e R s m args below meth c H locs cells slots Q (F0 m pc ls (.int i :: .null :: rest)) := by
  intro T hT X
  obtain ⟨t, st, q⟩ := k T hT X
  exact ⟨t, X.laloadNull hexec (g := F0 m pc ls (.int i :: .null :: rest)) rfl (rest := rest) rfl (by rw [hb]; exact hdg) t st, q⟩
theorem vx_faloadN (hexec : p.tables.exec = Jvm.exec) (hb : c.code = cc) {i : Int32} (hdg : decode cc pc = .ok (.faload, 1)) (k : vx_NoteN p l e R s m args below meth c H locs cells slots Q (F0 m pc ls rest)) : W p l e R s m args below meth c H locs cells slots Q (F0 m pc ls (.int i :: .null :: rest)) := by
  intro T hT X
  obtain ⟨t, st, q⟩ := k T hT X
  exact ⟨t, X.faloadNull hexec (g := F0 m pc ls (.int i :: .null :: rest)) rfl (rest := rest) rfl (by rw [hb]; exact hdg) t st, q⟩
theorem vx_daloadN (hexec : p.tables.exec = Jvm.exec) (hb : c.code = cc) {i : Int32} (hdg : decode cc pc = .ok (.daload, 1)) (k : vx_NoteN p l e R s m args below meth c H locs cells slots Q (F0 m pc ls rest)) : W p l e R s m args below meth c H locs cells slots Q (F0 m pc ls (.int i :: .null :: rest)) := by
  intro T hT X
  obtain ⟨t, st, q⟩ := k T hT X
  exact ⟨t, X.daloadNull hexec (g := F0 m pc ls (.int i :: .null :: rest)) rfl (rest := rest) rfl (by rw [hb]; exact hdg) t st, q⟩
theorem vx_aaloadN (hexec : p.tables.exec = Jvm.exec) (hb : c.code = cc) {i : Int32} (hdg : decode cc pc = .ok (.aaload, 1)) (k : vx_NoteN p l e R s m args below meth c H locs cells slots Q (F0 m pc ls rest)) : W p l e R s m args below meth c H locs cells slots Q (F0 m pc ls (.int i :: .null :: rest)) := by
  intro T hT X
  obtain ⟨t, st, q⟩ := k T hT X
  exact ⟨t, X.aaloadNull hexec (g := F0 m pc ls (.int i :: .null :: rest)) rfl (rest := rest) rfl (by rw [hb]; exact hdg) t st, q⟩
theorem vx_baloadN (hexec : p.tables.exec = Jvm.exec) (hb : c.code = cc) {i : Int32} (hdg : decode cc pc = .ok (.baload, 1)) (k : vx_NoteN p l e R s m args below meth c H locs cells slots Q (F0 m pc ls rest)) : W p l e R s m args below meth c H locs cells slots Q (F0 m pc ls (.int i :: .null :: rest)) := by
  intro T hT X
  obtain ⟨t, st, q⟩ := k T hT X
  exact ⟨t, X.baloadNull hexec (g := F0 m pc ls (.int i :: .null :: rest)) rfl (rest := rest) rfl (by rw [hb]; exact hdg) t st, q⟩
theorem vx_caloadN (hexec : p.tables.exec = Jvm.exec) (hb : c.code = cc) {i : Int32} (hdg : decode cc pc = .ok (.caload, 1)) (k : vx_NoteN p l e R s m args below meth c H locs cells slots Q (F0 m pc ls rest)) : W p l e R s m args below meth c H locs cells slots Q (F0 m pc ls (.int i :: .null :: rest)) := by
  intro T hT X
  obtain ⟨t, st, q⟩ := k T hT X
  exact ⟨t, X.caloadNull hexec (g := F0 m pc ls (.int i :: .null :: rest)) rfl (rest := rest) rfl (by rw [hb]; exact hdg) t st, q⟩
theorem vx_saloadN (hexec : p.tables.exec = Jvm.exec) (hb : c.code = cc) {i : Int32} (hdg : decode cc pc = .ok (.saload, 1)) (k : vx_NoteN p l e R s m args below meth c H locs cells slots Q (F0 m pc ls rest)) : W p l e R s m args below meth c H locs cells slots Q (F0 m pc ls (.int i :: .null :: rest)) := by
  intro T hT X
  obtain ⟨t, st, q⟩ := k T hT X
  exact ⟨t, X.saloadNull hexec (g := F0 m pc ls (.int i :: .null :: rest)) rfl (rest := rest) rfl (by rw [hb]; exact hdg) t st, q⟩
theorem vx_iastoreN (hexec : p.tables.exec = Jvm.exec) (hb : c.code = cc) {x : Int32} {i : Int32} (hdg : decode cc pc = .ok (.iastore, 1)) (k : vx_NoteN p l e R s m args below meth c H locs cells slots Q (F0 m pc ls rest)) : W p l e R s m args below meth c H locs cells slots Q (F0 m pc ls (.int x :: .int i :: .null :: rest)) := by
  intro T hT X
  obtain ⟨t, st, q⟩ := k T hT X
  exact ⟨t, X.iastoreNull hexec (g := F0 m pc ls (.int x :: .int i :: .null :: rest)) rfl (rest := rest) rfl (by rw [hb]; exact hdg) t st, q⟩
theorem vx_lastoreN (hexec : p.tables.exec = Jvm.exec) (hb : c.code = cc) {x : Int64} {i : Int32} (hdg : decode cc pc = .ok (.lastore, 1)) (k : vx_NoteN p l e R s m args below meth c H locs cells slots Q (F0 m pc ls rest)) : W p l e R s m args below meth c H locs cells slots Q (F0 m pc ls (.long x :: .int i :: .null :: rest)) := by
  intro T hT X
  obtain ⟨t, st, q⟩ := k T hT X
  exact ⟨t, X.lastoreNull hexec (g := F0 m pc ls (.long x :: .int i :: .null :: rest)) rfl (rest := rest) rfl (by rw [hb]; exact hdg) t st, q⟩
theorem vx_fastoreN (hexec : p.tables.exec = Jvm.exec) (hb : c.code = cc) {x : UInt32} {i : Int32} (hdg : decode cc pc = .ok (.fastore, 1)) (k : vx_NoteN p l e R s m args below meth c H locs cells slots Q (F0 m pc ls rest)) : W p l e R s m args below meth c H locs cells slots Q (F0 m pc ls (.float x :: .int i :: .null :: rest)) := by
  intro T hT X
  obtain ⟨t, st, q⟩ := k T hT X
  exact ⟨t, X.fastoreNull hexec (g := F0 m pc ls (.float x :: .int i :: .null :: rest)) rfl (rest := rest) rfl (by rw [hb]; exact hdg) t st, q⟩
theorem vx_dastoreN (hexec : p.tables.exec = Jvm.exec) (hb : c.code = cc) {x : UInt64} {i : Int32} (hdg : decode cc pc = .ok (.dastore, 1)) (k : vx_NoteN p l e R s m args below meth c H locs cells slots Q (F0 m pc ls rest)) : W p l e R s m args below meth c H locs cells slots Q (F0 m pc ls (.double x :: .int i :: .null :: rest)) := by
  intro T hT X
  obtain ⟨t, st, q⟩ := k T hT X
  exact ⟨t, X.dastoreNull hexec (g := F0 m pc ls (.double x :: .int i :: .null :: rest)) rfl (rest := rest) rfl (by rw [hb]; exact hdg) t st, q⟩
theorem vx_bastoreN (hexec : p.tables.exec = Jvm.exec) (hb : c.code = cc) {x : Int32} {i : Int32} (hdg : decode cc pc = .ok (.bastore, 1)) (k : vx_NoteN p l e R s m args below meth c H locs cells slots Q (F0 m pc ls rest)) : W p l e R s m args below meth c H locs cells slots Q (F0 m pc ls (.int x :: .int i :: .null :: rest)) := by
  intro T hT X
  obtain ⟨t, st, q⟩ := k T hT X
  exact ⟨t, X.bastoreNull hexec (g := F0 m pc ls (.int x :: .int i :: .null :: rest)) rfl (rest := rest) rfl (by rw [hb]; exact hdg) t st, q⟩
theorem vx_castoreN (hexec : p.tables.exec = Jvm.exec) (hb : c.code = cc) {x : Int32} {i : Int32} (hdg : decode cc pc = .ok (.castore, 1)) (k : vx_NoteN p l e R s m args below meth c H locs cells slots Q (F0 m pc ls rest)) : W p l e R s m args below meth c H locs cells slots Q (F0 m pc ls (.int x :: .int i :: .null :: rest)) := by
  intro T hT X
  obtain ⟨t, st, q⟩ := k T hT X
  exact ⟨t, X.castoreNull hexec (g := F0 m pc ls (.int x :: .int i :: .null :: rest)) rfl (rest := rest) rfl (by rw [hb]; exact hdg) t st, q⟩
theorem vx_sastoreN (hexec : p.tables.exec = Jvm.exec) (hb : c.code = cc) {x : Int32} {i : Int32} (hdg : decode cc pc = .ok (.sastore, 1)) (k : vx_NoteN p l e R s m args below meth c H locs cells slots Q (F0 m pc ls rest)) : W p l e R s m args below meth c H locs cells slots Q (F0 m pc ls (.int x :: .int i :: .null :: rest)) := by
  intro T hT X
  obtain ⟨t, st, q⟩ := k T hT X
  exact ⟨t, X.sastoreNull hexec (g := F0 m pc ls (.int x :: .int i :: .null :: rest)) rfl (rest := rest) rfl (by rw [hb]; exact hdg) t st, q⟩
theorem vx_invokeN {own C : String} {index maxL : Nat} {y : MethodName} {bytes : ByteArray} {ret : Option FieldType} (hexec : p.tables.exec = Jvm.exec) (hb : c.code = cc) (hown : s.vm.findClass own = some m.cls) (hlink : (Cond.methodLink own index y).before args s = true) (hinst : (Cond.instanceMethod y).before args s = true) (hcode : (Cond.code y bytes maxL ret).before args s = true) (hsel : (Cond.selects C y y).before args s = true)
    (hx : y.cls ≠ "java/lang/invoke/MethodHandle" ∧ y.cls ≠ "java/lang/invoke/VarHandle") {As : List Value} (hlen : (parseMethodDescriptor y.desc).map (fun d => d.parameters.length) = some As.length) (hdg : decode cc pc = .ok (.invokevirtual index, 3))
    (k : vx_NoteN p l e R s m args below meth c H locs cells slots Q (F0 m pc ls rest)) {st0 : List Value} (hst : st0 = As.reverse ++ .null :: rest) : W p l e R s m args below meth c H locs cells slots Q (F0 m pc ls st0) := by
  intro T hT X
  obtain ⟨r0, r, hn, hrm, hstR, hsigR⟩ := va_Decl.of hinst hcode
  obtain ⟨c2, r2, m2, q1, q2, q3, q4, kP, hkP, hkPi⟩ := Cond.selects_spec hsel
  cases hn.symm.trans q3
  have hl9 : As.length = r.sig.parameters.length := by
    rw [hsigR] at hlen
    exact (Option.some.inj hlen).symm
  obtain ⟨vm', X1, st1⟩ := X.invokevirtualNull hexec hown hlink hn hrm hstR hkP hkPi hx (g := F0 m pc ls st0) rfl (argsL := As) (rest := rest) hl9 hst (by rw [hb]; exact hdg)
  obtain ⟨t, st, q⟩ := k (T.setVm vm') hT X1
  exact ⟨t, st1 t st, q⟩
theorem vx_newarrayZ {atype : ArrayType} (hexec : p.tables.exec = Jvm.exec) (hb : c.code = cc) {n : Int32} (h0 : n < 0) (hdg : decode cc pc = .ok (.newarray atype, 2)) (k : ∀ tx : String, tx = toString n → vx_Note p l e R s m args below meth c H locs cells slots Q (F0 m pc ls rest) "java/lang/NegativeArraySizeException" tx) : W p l e R s m args below meth c H locs cells slots Q (F0 m pc ls (.int n :: rest)) := by
  intro T hT X
  obtain ⟨t, st, q⟩ := k _ rfl T hT X
  exact ⟨t, X.newarrayNegative hexec (g := F0 m pc ls (.int n :: rest)) rfl h0 (rest := rest) rfl (by rw [hb]; exact hdg) t st, q⟩
end
end VXM
/-! ===== END ===== -/
end
section
/-! ===== BEGIN printed: names, fields, word lists, decode rows ===== -/
def RX0 : String := "OpenFloors$Floor"
def TX0 : u_T := fun k => match k with
  | 0 => ("OpenFloors$Floor", "number", "I", true)
  | 1 => ("OpenFloors$Floor", "seats", "I", true)
  | 2 => ("OpenFloors$Floor", "cost", "I", false)
  | 3 => ("OpenFloors$Floor", "open", "Z", false)
  | 4 => ("OpenFloors$Floor", "warmth", "I", false)
  | 5 => ("OpenFloors$Floor", "air", "I", false)
  | _ => ("OpenFloors$Floor", "keys", "[I", true)
def tyX0 : Nat → FieldType := fun k => match k with
  | 0 => .int
  | 1 => .int
  | 2 => .int
  | 3 => .boolean
  | 4 => .int
  | 5 => .int
  | _ => .array .int
abbrev wsX00 : List Cond := u_ws RX0 TX0 7
theorem nmX0 : ∀ a, a < 7 → ∀ b, b < 7 → a ≠ b → (TX0 a).2.1 ≠ (TX0 b).2.1 := by decide +kernel
theorem tyX0_ok : ∀ k, k < 7 → parseFieldDescriptor (TX0 k).2.2.1 = some (tyX0 k) := by decide +kernel
abbrev cX0_init : ByteArray := prog_2_method_1_code
def yX0_init : MethodName := ⟨RX0, "<init>", "(III)V"⟩
abbrev cX0_bit : ByteArray := prog_2_method_2_code
def yX0_bit : MethodName := ⟨RX0, "bit", "()I"⟩
abbrev cX0_isPartOf : ByteArray := prog_2_method_3_code
def yX0_isPartOf : MethodName := ⟨RX0, "isPartOf", "(I)Z"⟩
abbrev cX0_distanceTo : ByteArray := prog_2_method_4_code
def yX0_distanceTo : MethodName := ⟨RX0, "distanceTo", "(LOpenFloors$Floor;)I"⟩
abbrev cX0_forgetKeys : ByteArray := prog_2_method_5_code
def yX0_forgetKeys : MethodName := ⟨RX0, "forgetKeys", "()V"⟩
abbrev cX0_keyFor : ByteArray := prog_2_method_6_code
def yX0_keyFor : MethodName := ⟨RX0, "keyFor", "(I)I"⟩
abbrev cX0_offerKey : ByteArray := prog_2_method_7_code
def yX0_offerKey : MethodName := ⟨RX0, "offerKey", "(II)V"⟩
abbrev cX0_followWarmth : ByteArray := prog_2_method_8_code
def yX0_followWarmth : MethodName := ⟨RX0, "followWarmth", "(I)I"⟩
abbrev cX0_followAir : ByteArray := prog_2_method_9_code
def yX0_followAir : MethodName := ⟨RX0, "followAir", "(I)V"⟩
abbrev cX0_discomfortOfOnePerson : ByteArray := prog_2_method_10_code
def yX0_discomfortOfOnePerson : MethodName := ⟨RX0, "discomfortOfOnePerson", "()I"⟩
def RX1 : String := "OpenFloors$Person"
def TX1 : u_T := fun k => match k with
  | 0 => ("OpenFloors$Person", "number", "I", true)
  | 1 => ("OpenFloors$Person", "team", "I", true)
  | 2 => ("OpenFloors$Person", "standing", "I", false)
  | 3 => ("OpenFloors$Person", "wanted", "LOpenFloors$Floor;", false)
  | 4 => ("OpenFloors$Person", "seat", "LOpenFloors$Floor;", false)
  | 5 => ("OpenFloors$Person", "in", "Z", false)
  | _ => ("OpenFloors$Person", "came", "Z", false)
def tyX1 : Nat → FieldType := fun k => match k with
  | 0 => .int
  | 1 => .int
  | 2 => .int
  | 3 => .object "OpenFloors$Floor"
  | 4 => .object "OpenFloors$Floor"
  | 5 => .boolean
  | _ => .boolean
abbrev wsX10 : List Cond := u_ws RX1 TX1 7
theorem nmX1 : ∀ a, a < 7 → ∀ b, b < 7 → a ≠ b → (TX1 a).2.1 ≠ (TX1 b).2.1 := by decide +kernel
theorem tyX1_ok : ∀ k, k < 7 → parseFieldDescriptor (TX1 k).2.2.1 = some (tyX1 k) := by decide +kernel
abbrev cX1_init : ByteArray := prog_3_method_1_code
def yX1_init : MethodName := ⟨RX1, "<init>", "(II)V"⟩
abbrev cX1_isNoShow : ByteArray := prog_3_method_2_code
def yX1_isNoShow : MethodName := ⟨RX1, "isNoShow", "()Z"⟩
abbrev cX1_judge : ByteArray := prog_3_method_3_code
def yX1_judge : MethodName := ⟨RX1, "judge", "()V"⟩
abbrev cX1_goHome : ByteArray := prog_3_method_4_code
def yX1_goHome : MethodName := ⟨RX1, "goHome", "()V"⟩
def RX2 : String := "OpenFloors"
def TX2 : u_T := fun k => match k with
  | 0 => ("OpenFloors", "floors", "Ljava/util/ArrayList;", true)
  | 1 => ("OpenFloors", "people", "Ljava/util/ArrayList;", true)
  | 2 => ("OpenFloors", "booked", "Ljava/util/ArrayList;", true)
  | 3 => ("OpenFloors", "day", "I", false)
  | 4 => ("OpenFloors", "noShows", "I", false)
  | 5 => ("OpenFloors", "energy", "J", false)
  | 6 => ("OpenFloors", "discomfort", "J", false)
  | _ => ("OpenFloors", "cleaning", "J", false)
def tyX2 : Nat → FieldType := fun k => match k with
  | 0 => .object "java/util/ArrayList"
  | 1 => .object "java/util/ArrayList"
  | 2 => .object "java/util/ArrayList"
  | 3 => .int
  | 4 => .int
  | 5 => .long
  | 6 => .long
  | _ => .long
abbrev wsX20 : List Cond := u_ws RX2 TX2 8
theorem nmX2 : ∀ a, a < 8 → ∀ b, b < 8 → a ≠ b → (TX2 a).2.1 ≠ (TX2 b).2.1 := by decide +kernel
theorem tyX2_ok : ∀ k, k < 8 → parseFieldDescriptor (TX2 k).2.2.1 = some (tyX2 k) := by decide +kernel
abbrev cX2_init : ByteArray := prog_1_method_1_code
def yX2_init : MethodName := ⟨RX2, "<init>", "()V"⟩
abbrev cX2_addFloor : ByteArray := prog_1_method_2_code
def yX2_addFloor : MethodName := ⟨RX2, "addFloor", "(II)I"⟩
abbrev cX2_setCost : ByteArray := prog_1_method_3_code
def yX2_setCost : MethodName := ⟨RX2, "setCost", "(II)I"⟩
abbrev cX2_addPerson : ByteArray := prog_1_method_4_code
def yX2_addPerson : MethodName := ⟨RX2, "addPerson", "(I)I"⟩
abbrev cX2_standing : ByteArray := prog_1_method_5_code
def yX2_standing : MethodName := ⟨RX2, "standing", "(I)I"⟩
abbrev cX2_book : ByteArray := prog_1_method_6_code
def yX2_book : MethodName := ⟨RX2, "book", "(II)I"⟩
abbrev cX2_cancel : ByteArray := prog_1_method_7_code
def yX2_cancel : MethodName := ⟨RX2, "cancel", "(I)I"⟩
abbrev cX2_bookings : ByteArray := prog_1_method_8_code
def yX2_bookings : MethodName := ⟨RX2, "bookings", "()I"⟩
abbrev cX2_bookingAt : ByteArray := prog_1_method_9_code
def yX2_bookingAt : MethodName := ⟨RX2, "bookingAt", "(I)I"⟩
abbrev cX2_plan : ByteArray := prog_1_method_10_code
def yX2_plan : MethodName := ⟨RX2, "plan", "()I"⟩
abbrev cX2_planByTrying : ByteArray := prog_1_method_11_code
def yX2_planByTrying : MethodName := ⟨RX2, "planByTrying", "()I"⟩
abbrev cX2_planLoss : ByteArray := prog_1_method_12_code
def yX2_planLoss : MethodName := ⟨RX2, "planLoss", "()I"⟩
abbrev cX2_lossOf : ByteArray := prog_1_method_13_code
def yX2_lossOf : MethodName := ⟨RX2, "lossOf", "(I)I"⟩
abbrev cX2_nextDay : ByteArray := prog_1_method_14_code
def yX2_nextDay : MethodName := ⟨RX2, "nextDay", "()I"⟩
abbrev cX2_day : ByteArray := prog_1_method_15_code
def yX2_day : MethodName := ⟨RX2, "day", "()I"⟩
abbrev cX2_comeIn : ByteArray := prog_1_method_16_code
def yX2_comeIn : MethodName := ⟨RX2, "comeIn", "(I)I"⟩
abbrev cX2_leave : ByteArray := prog_1_method_17_code
def yX2_leave : MethodName := ⟨RX2, "leave", "(I)I"⟩
abbrev cX2_seatOf : ByteArray := prog_1_method_18_code
def yX2_seatOf : MethodName := ⟨RX2, "seatOf", "(I)I"⟩
abbrev cX2_isIn : ByteArray := prog_1_method_19_code
def yX2_isIn : MethodName := ⟨RX2, "isIn", "(I)Z"⟩
abbrev cX2_isOpen : ByteArray := prog_1_method_20_code
def yX2_isOpen : MethodName := ⟨RX2, "isOpen", "(I)Z"⟩
abbrev cX2_seated : ByteArray := prog_1_method_21_code
def yX2_seated : MethodName := ⟨RX2, "seated", "(II)I"⟩
abbrev cX2_pass : ByteArray := prog_1_method_22_code
def yX2_pass : MethodName := ⟨RX2, "pass", "(I)I"⟩
abbrev cX2_warmth : ByteArray := prog_1_method_23_code
def yX2_warmth : MethodName := ⟨RX2, "warmth", "(I)I"⟩
abbrev cX2_air : ByteArray := prog_1_method_24_code
def yX2_air : MethodName := ⟨RX2, "air", "(I)I"⟩
abbrev cX2_energy : ByteArray := prog_1_method_25_code
def yX2_energy : MethodName := ⟨RX2, "energy", "()J"⟩
abbrev cX2_discomfort : ByteArray := prog_1_method_26_code
def yX2_discomfort : MethodName := ⟨RX2, "discomfort", "()J"⟩
abbrev cX2_cleaning : ByteArray := prog_1_method_27_code
def yX2_cleaning : MethodName := ⟨RX2, "cleaning", "()J"⟩
abbrev cX2_noShows : ByteArray := prog_1_method_28_code
def yX2_noShows : MethodName := ⟨RX2, "noShows", "()I"⟩
abbrev cX2_meanStanding : ByteArray := prog_1_method_29_code
def yX2_meanStanding : MethodName := ⟨RX2, "meanStanding", "()D"⟩
abbrev cX2_givenShare : ByteArray := prog_1_method_30_code
def yX2_givenShare : MethodName := ⟨RX2, "givenShare", "()F"⟩
abbrev cX2_isSound : ByteArray := prog_1_method_31_code
def yX2_isSound : MethodName := ⟨RX2, "isSound", "()Z"⟩
abbrev cX2_existingFloor : ByteArray := prog_1_method_32_code
def yX2_existingFloor : MethodName := ⟨RX2, "existingFloor", "(I)LOpenFloors$Floor;"⟩
abbrev cX2_existingPerson : ByteArray := prog_1_method_33_code
def yX2_existingPerson : MethodName := ⟨RX2, "existingPerson", "(I)LOpenFloors$Person;"⟩
abbrev cX2_checkCost : ByteArray := prog_1_method_34_code
def yX2_checkCost : MethodName := ⟨RX2, "checkCost", "(I)V"⟩
abbrev cX2_checkTeam : ByteArray := prog_1_method_35_code
def yX2_checkTeam : MethodName := ⟨RX2, "checkTeam", "(I)V"⟩
abbrev cX2_removeBooking : ByteArray := prog_1_method_36_code
def yX2_removeBooking : MethodName := ⟨RX2, "removeBooking", "(LOpenFloors$Person;)V"⟩
abbrev cX2_allFloors : ByteArray := prog_1_method_37_code
def yX2_allFloors : MethodName := ⟨RX2, "allFloors", "()I"⟩
abbrev cX2_seatsOfSet : ByteArray := prog_1_method_38_code
def yX2_seatsOfSet : MethodName := ⟨RX2, "seatsOfSet", "(I)I"⟩
abbrev cX2_fits : ByteArray := prog_1_method_39_code
def yX2_fits : MethodName := ⟨RX2, "fits", "(I)Z"⟩
abbrev cX2_lossOfSet : ByteArray := prog_1_method_40_code
def yX2_lossOfSet : MethodName := ⟨RX2, "lossOfSet", "(I)I"⟩
abbrev cX2_distanceToSet : ByteArray := prog_1_method_41_code
def yX2_distanceToSet : MethodName := ⟨RX2, "distanceToSet", "(LOpenFloors$Floor;I)I"⟩
abbrev cX2_findPlanKey : ByteArray := prog_1_method_42_code
def yX2_findPlanKey : MethodName := ⟨RX2, "findPlanKey", "()I"⟩
abbrev cX2_findKeysUpTo : ByteArray := prog_1_method_43_code
def yX2_findKeysUpTo : MethodName := ⟨RX2, "findKeysUpTo", "(LOpenFloors$Floor;I)V"⟩
abbrev cX2_addFloorToSetsOf : ByteArray := prog_1_method_44_code
def yX2_addFloorToSetsOf : MethodName := ⟨RX2, "addFloorToSetsOf", "(LOpenFloors$Floor;LOpenFloors$Floor;I)V"⟩
abbrev cX2_lossBetween : ByteArray := prog_1_method_45_code
def yX2_lossBetween : MethodName := ⟨RX2, "lossBetween", "(II)I"⟩
abbrev cX2_countNoShows : ByteArray := prog_1_method_46_code
def yX2_countNoShows : MethodName := ⟨RX2, "countNoShows", "()I"⟩
abbrev cX2_judgePeople : ByteArray := prog_1_method_47_code
def yX2_judgePeople : MethodName := ⟨RX2, "judgePeople", "()V"⟩
abbrev cX2_cleanOpenFloors : ByteArray := prog_1_method_48_code
def yX2_cleanOpenFloors : MethodName := ⟨RX2, "cleanOpenFloors", "()V"⟩
abbrev cX2_sendPeopleHome : ByteArray := prog_1_method_49_code
def yX2_sendPeopleHome : MethodName := ⟨RX2, "sendPeopleHome", "()V"⟩
abbrev cX2_openFloorsOf : ByteArray := prog_1_method_50_code
def yX2_openFloorsOf : MethodName := ⟨RX2, "openFloorsOf", "(I)V"⟩
abbrev cX2_giveSeats : ByteArray := prog_1_method_51_code
def yX2_giveSeats : MethodName := ⟨RX2, "giveSeats", "()V"⟩
abbrev cX2_giveSeat : ByteArray := prog_1_method_52_code
def yX2_giveSeat : MethodName := ⟨RX2, "giveSeat", "(LOpenFloors$Person;)V"⟩
abbrev cX2_suitsBetter : ByteArray := prog_1_method_53_code
def yX2_suitsBetter : MethodName := ⟨RX2, "suitsBetter", "(LOpenFloors$Person;LOpenFloors$Floor;LOpenFloors$Floor;)Z"⟩
abbrev cX2_dropBookings : ByteArray := prog_1_method_54_code
def yX2_dropBookings : MethodName := ⟨RX2, "dropBookings", "()V"⟩
abbrev cX2_passHourOn : ByteArray := prog_1_method_55_code
def yX2_passHourOn : MethodName := ⟨RX2, "passHourOn", "(LOpenFloors$Floor;)I"⟩
abbrev cX2_countPeopleIn : ByteArray := prog_1_method_56_code
def yX2_countPeopleIn : MethodName := ⟨RX2, "countPeopleIn", "()I"⟩
abbrev cX2_countSeatsGivenOn : ByteArray := prog_1_method_57_code
def yX2_countSeatsGivenOn : MethodName := ⟨RX2, "countSeatsGivenOn", "(LOpenFloors$Floor;)I"⟩
abbrev cX2_countTeamOn : ByteArray := prog_1_method_58_code
def yX2_countTeamOn : MethodName := ⟨RX2, "countTeamOn", "(ILOpenFloors$Floor;)I"⟩
abbrev cX2_countPresentOn : ByteArray := prog_1_method_59_code
def yX2_countPresentOn : MethodName := ⟨RX2, "countPresentOn", "(LOpenFloors$Floor;)I"⟩
abbrev cX2_countGuestsOf : ByteArray := prog_1_method_60_code
def yX2_countGuestsOf : MethodName := ⟨RX2, "countGuestsOf", "(LOpenFloors$Floor;)I"⟩
abbrev cX2_peopleAreSound : ByteArray := prog_1_method_61_code
def yX2_peopleAreSound : MethodName := ⟨RX2, "peopleAreSound", "()Z"⟩
abbrev cX2_floorsAreSound : ByteArray := prog_1_method_62_code
def yX2_floorsAreSound : MethodName := ⟨RX2, "floorsAreSound", "()Z"⟩
def RX3 : String := "OpenFloorsModel"
def TX3 : u_T := fun k => match k with
  | 0 => ("OpenFloorsModel", "thrown", "I", false)
  | 1 => ("OpenFloorsModel", "floors", "I", false)
  | 2 => ("OpenFloorsModel", "people", "I", false)
  | 3 => ("OpenFloorsModel", "bookings", "I", false)
  | 4 => ("OpenFloorsModel", "day", "I", false)
  | 5 => ("OpenFloorsModel", "noShows", "I", false)
  | 6 => ("OpenFloorsModel", "seats", "[I", true)
  | 7 => ("OpenFloorsModel", "cost", "[I", true)
  | 8 => ("OpenFloorsModel", "warmth", "[I", true)
  | 9 => ("OpenFloorsModel", "air", "[I", true)
  | 10 => ("OpenFloorsModel", "isOpen", "[Z", true)
  | 11 => ("OpenFloorsModel", "team", "[I", true)
  | 12 => ("OpenFloorsModel", "standing", "[I", true)
  | 13 => ("OpenFloorsModel", "seat", "[I", true)
  | 14 => ("OpenFloorsModel", "isIn", "[Z", true)
  | 15 => ("OpenFloorsModel", "hasCome", "[Z", true)
  | 16 => ("OpenFloorsModel", "isServed", "[Z", true)
  | 17 => ("OpenFloorsModel", "booker", "[I", true)
  | 18 => ("OpenFloorsModel", "wanted", "[I", true)
  | 19 => ("OpenFloorsModel", "energy", "J", false)
  | 20 => ("OpenFloorsModel", "discomfort", "J", false)
  | _ => ("OpenFloorsModel", "cleaning", "J", false)
def tyX3 : Nat → FieldType := fun k => match k with
  | 0 => .int
  | 1 => .int
  | 2 => .int
  | 3 => .int
  | 4 => .int
  | 5 => .int
  | 6 => .array .int
  | 7 => .array .int
  | 8 => .array .int
  | 9 => .array .int
  | 10 => .array .boolean
  | 11 => .array .int
  | 12 => .array .int
  | 13 => .array .int
  | 14 => .array .boolean
  | 15 => .array .boolean
  | 16 => .array .boolean
  | 17 => .array .int
  | 18 => .array .int
  | 19 => .long
  | 20 => .long
  | _ => .long
abbrev wsX30 : List Cond := u_ws RX3 TX3 22
theorem nmX3 : ∀ a, a < 22 → ∀ b, b < 22 → a ≠ b → (TX3 a).2.1 ≠ (TX3 b).2.1 := by decide +kernel
theorem tyX3_ok : ∀ k, k < 22 → parseFieldDescriptor (TX3 k).2.2.1 = some (tyX3 k) := by decide +kernel
abbrev cX3_init : ByteArray := prog_5_method_1_code
def yX3_init : MethodName := ⟨RX3, "<init>", "()V"⟩
abbrev cX3_thrown : ByteArray := prog_5_method_2_code
def yX3_thrown : MethodName := ⟨RX3, "thrown", "()I"⟩
abbrev cX3_in : ByteArray := prog_5_method_3_code
def yX3_in : MethodName := ⟨RX3, "in", "(III)Z"⟩
abbrev cX3_fails : ByteArray := prog_5_method_4_code
def yX3_fails : MethodName := ⟨RX3, "fails", "(I)I"⟩
abbrev cX3_tells : ByteArray := prog_5_method_5_code
def yX3_tells : MethodName := ⟨RX3, "tells", "(I)I"⟩
abbrev cX3_asks : ByteArray := prog_5_method_6_code
def yX3_asks : MethodName := ⟨RX3, "asks", "(IZ)Z"⟩
abbrev cX3_isFloor : ByteArray := prog_5_method_7_code
def yX3_isFloor : MethodName := ⟨RX3, "isFloor", "(I)Z"⟩
abbrev cX3_isPerson : ByteArray := prog_5_method_8_code
def yX3_isPerson : MethodName := ⟨RX3, "isPerson", "(I)Z"⟩
abbrev cX3_addFloor : ByteArray := prog_5_method_9_code
def yX3_addFloor : MethodName := ⟨RX3, "addFloor", "(II)I"⟩
abbrev cX3_setCost : ByteArray := prog_5_method_10_code
def yX3_setCost : MethodName := ⟨RX3, "setCost", "(II)I"⟩
abbrev cX3_addPerson : ByteArray := prog_5_method_11_code
def yX3_addPerson : MethodName := ⟨RX3, "addPerson", "(I)I"⟩
abbrev cX3_standing : ByteArray := prog_5_method_12_code
def yX3_standing : MethodName := ⟨RX3, "standing", "(I)I"⟩
abbrev cX3_bookingOf : ByteArray := prog_5_method_13_code
def yX3_bookingOf : MethodName := ⟨RX3, "bookingOf", "(I)I"⟩
abbrev cX3_seatsIn : ByteArray := prog_5_method_14_code
def yX3_seatsIn : MethodName := ⟨RX3, "seatsIn", "(I)I"⟩
abbrev cX3_book : ByteArray := prog_5_method_15_code
def yX3_book : MethodName := ⟨RX3, "book", "(II)I"⟩
abbrev cX3_cancel : ByteArray := prog_5_method_16_code
def yX3_cancel : MethodName := ⟨RX3, "cancel", "(I)I"⟩
abbrev cX3_bookings : ByteArray := prog_5_method_17_code
def yX3_bookings : MethodName := ⟨RX3, "bookings", "()I"⟩
abbrev cX3_bookingAt : ByteArray := prog_5_method_18_code
def yX3_bookingAt : MethodName := ⟨RX3, "bookingAt", "(I)I"⟩
abbrev cX3_apart : ByteArray := prog_5_method_19_code
def yX3_apart : MethodName := ⟨RX3, "apart", "(II)I"⟩
abbrev cX3_fits : ByteArray := prog_5_method_20_code
def yX3_fits : MethodName := ⟨RX3, "fits", "(I)Z"⟩
abbrev cX3_loss : ByteArray := prog_5_method_21_code
def yX3_loss : MethodName := ⟨RX3, "loss", "(I)I"⟩
abbrev cX3_best : ByteArray := prog_5_method_22_code
def yX3_best : MethodName := ⟨RX3, "best", "()I"⟩
abbrev cX3_plan : ByteArray := prog_5_method_23_code
def yX3_plan : MethodName := ⟨RX3, "plan", "()I"⟩
abbrev cX3_planByTrying : ByteArray := prog_5_method_24_code
def yX3_planByTrying : MethodName := ⟨RX3, "planByTrying", "()I"⟩
abbrev cX3_planLoss : ByteArray := prog_5_method_25_code
def yX3_planLoss : MethodName := ⟨RX3, "planLoss", "()I"⟩
abbrev cX3_lossOf : ByteArray := prog_5_method_26_code
def yX3_lossOf : MethodName := ⟨RX3, "lossOf", "(I)I"⟩
abbrev cX3_sitting : ByteArray := prog_5_method_27_code
def yX3_sitting : MethodName := ⟨RX3, "sitting", "(II)I"⟩
abbrev cX3_judges : ByteArray := prog_5_method_28_code
def yX3_judges : MethodName := ⟨RX3, "judges", "()I"⟩
abbrev cX3_cleans : ByteArray := prog_5_method_29_code
def yX3_cleans : MethodName := ⟨RX3, "cleans", "()V"⟩
abbrev cX3_isNearer : ByteArray := prog_5_method_30_code
def yX3_isNearer : MethodName := ⟨RX3, "isNearer", "(III)Z"⟩
abbrev cX3_gives : ByteArray := prog_5_method_31_code
def yX3_gives : MethodName := ⟨RX3, "gives", "(I)V"⟩
abbrev cX3_nextDay : ByteArray := prog_5_method_32_code
def yX3_nextDay : MethodName := ⟨RX3, "nextDay", "()I"⟩
abbrev cX3_day : ByteArray := prog_5_method_33_code
def yX3_day : MethodName := ⟨RX3, "day", "()I"⟩
abbrev cX3_comeIn : ByteArray := prog_5_method_34_code
def yX3_comeIn : MethodName := ⟨RX3, "comeIn", "(I)I"⟩
abbrev cX3_leave : ByteArray := prog_5_method_35_code
def yX3_leave : MethodName := ⟨RX3, "leave", "(I)I"⟩
abbrev cX3_seatOf : ByteArray := prog_5_method_36_code
def yX3_seatOf : MethodName := ⟨RX3, "seatOf", "(I)I"⟩
abbrev cX3_isIn : ByteArray := prog_5_method_37_code
def yX3_isIn : MethodName := ⟨RX3, "isIn", "(I)Z"⟩
abbrev cX3_isOpen : ByteArray := prog_5_method_38_code
def yX3_isOpen : MethodName := ⟨RX3, "isOpen", "(I)Z"⟩
abbrev cX3_seated : ByteArray := prog_5_method_39_code
def yX3_seated : MethodName := ⟨RX3, "seated", "(II)I"⟩
abbrev cX3_inside : ByteArray := prog_5_method_40_code
def yX3_inside : MethodName := ⟨RX3, "inside", "(I)I"⟩
abbrev cX3_hour : ByteArray := prog_5_method_41_code
def yX3_hour : MethodName := ⟨RX3, "hour", "(I)I"⟩
abbrev cX3_pass : ByteArray := prog_5_method_42_code
def yX3_pass : MethodName := ⟨RX3, "pass", "(I)I"⟩
abbrev cX3_warmth : ByteArray := prog_5_method_43_code
def yX3_warmth : MethodName := ⟨RX3, "warmth", "(I)I"⟩
abbrev cX3_air : ByteArray := prog_5_method_44_code
def yX3_air : MethodName := ⟨RX3, "air", "(I)I"⟩
abbrev cX3_tellsLong : ByteArray := prog_5_method_45_code
def yX3_tellsLong : MethodName := ⟨RX3, "tellsLong", "(J)J"⟩
abbrev cX3_energy : ByteArray := prog_5_method_46_code
def yX3_energy : MethodName := ⟨RX3, "energy", "()J"⟩
abbrev cX3_discomfort : ByteArray := prog_5_method_47_code
def yX3_discomfort : MethodName := ⟨RX3, "discomfort", "()J"⟩
abbrev cX3_cleaning : ByteArray := prog_5_method_48_code
def yX3_cleaning : MethodName := ⟨RX3, "cleaning", "()J"⟩
abbrev cX3_noShows : ByteArray := prog_5_method_49_code
def yX3_noShows : MethodName := ⟨RX3, "noShows", "()I"⟩
abbrev cX3_meanStanding : ByteArray := prog_5_method_50_code
def yX3_meanStanding : MethodName := ⟨RX3, "meanStanding", "()D"⟩
abbrev cX3_givenShare : ByteArray := prog_5_method_51_code
def yX3_givenShare : MethodName := ⟨RX3, "givenShare", "()F"⟩
abbrev cX3_isSound : ByteArray := prog_5_method_52_code
def yX3_isSound : MethodName := ⟨RX3, "isSound", "()Z"⟩
def RJx145de : String := "java/io/Serializable"
def TJx145de : u_T := fun k => match k with
  | _ => ("", "", "", false)
def tyJx145de : Nat → FieldType := fun k => match k with
  | _ => .int
abbrev wsJx145de0 : List Cond := u_ws RJx145de TJx145de 0
theorem nmJx145de : ∀ a, a < 0 → ∀ b, b < 0 → a ≠ b → (TJx145de a).2.1 ≠ (TJx145de b).2.1 := by decide +kernel
theorem tyJx145de_ok : ∀ k, k < 0 → parseFieldDescriptor (TJx145de k).2.2.1 = some (tyJx145de k) := by decide +kernel
def RJx00060 : String := "java/lang/ArrayIndexOutOfBoundsException"
def TJx00060 : u_T := fun k => match k with
  | 0 => ("java/lang/Throwable", "backtrace", "Ljava/lang/Object;", false)
  | 1 => ("java/lang/Throwable", "detailMessage", "Ljava/lang/String;", false)
  | 2 => ("java/lang/Throwable", "cause", "Ljava/lang/Throwable;", false)
  | 3 => ("java/lang/Throwable", "stackTrace", "[Ljava/lang/StackTraceElement;", false)
  | 4 => ("java/lang/Throwable", "depth", "I", false)
  | _ => ("java/lang/Throwable", "suppressedExceptions", "Ljava/util/List;", false)
def tyJx00060 : Nat → FieldType := fun k => match k with
  | 0 => .object "java/lang/Object"
  | 1 => .object "java/lang/String"
  | 2 => .object "java/lang/Throwable"
  | 3 => .array (.object "java/lang/StackTraceElement")
  | 4 => .int
  | _ => .object "java/util/List"
abbrev wsJx000600 : List Cond := u_ws RJx00060 TJx00060 6
theorem nmJx00060 : ∀ a, a < 6 → ∀ b, b < 6 → a ≠ b → (TJx00060 a).2.1 ≠ (TJx00060 b).2.1 := by decide +kernel
theorem tyJx00060_ok : ∀ k, k < 6 → parseFieldDescriptor (TJx00060 k).2.2.1 = some (tyJx00060 k) := by decide +kernel
abbrev cJx00060_init_a7421 : ByteArray := prog_8_method_2_code
def yJx00060_init_a7421 : MethodName := ⟨RJx00060, "<init>", "(Ljava/lang/String;)V"⟩
def RJx8e188 : String := "java/lang/Cloneable"
def TJx8e188 : u_T := fun k => match k with
  | _ => ("", "", "", false)
def tyJx8e188 : Nat → FieldType := fun k => match k with
  | _ => .int
abbrev wsJx8e1880 : List Cond := u_ws RJx8e188 TJx8e188 0
theorem nmJx8e188 : ∀ a, a < 0 → ∀ b, b < 0 → a ≠ b → (TJx8e188 a).2.1 ≠ (TJx8e188 b).2.1 := by decide +kernel
theorem tyJx8e188_ok : ∀ k, k < 0 → parseFieldDescriptor (TJx8e188 k).2.2.1 = some (tyJx8e188 k) := by decide +kernel
def RJxab1ab : String := "java/lang/Iterable"
def TJxab1ab : u_T := fun k => match k with
  | _ => ("", "", "", false)
def tyJxab1ab : Nat → FieldType := fun k => match k with
  | _ => .int
abbrev wsJxab1ab0 : List Cond := u_ws RJxab1ab TJxab1ab 0
theorem nmJxab1ab : ∀ a, a < 0 → ∀ b, b < 0 → a ≠ b → (TJxab1ab a).2.1 ≠ (TJxab1ab b).2.1 := by decide +kernel
theorem tyJxab1ab_ok : ∀ k, k < 0 → parseFieldDescriptor (TJxab1ab k).2.2.1 = some (tyJxab1ab k) := by decide +kernel
def RJ9 : String := "java/lang/Math"
def TJ9 : u_T := fun k => match k with
  | _ => ("", "", "", false)
def tyJ9 : Nat → FieldType := fun k => match k with
  | _ => .int
abbrev wsJ90 : List Cond := u_ws RJ9 TJ9 0
theorem nmJ9 : ∀ a, a < 0 → ∀ b, b < 0 → a ≠ b → (TJ9 a).2.1 ≠ (TJ9 b).2.1 := by decide +kernel
theorem tyJ9_ok : ∀ k, k < 0 → parseFieldDescriptor (TJ9 k).2.2.1 = some (tyJ9 k) := by decide +kernel
abbrev cJ9_abs_0f7a4 : ByteArray := prog_15_method_59_code
def yJ9_abs_0f7a4 : MethodName := ⟨RJ9, "abs", "(I)I"⟩
abbrev cJ9_max_7cf53 : ByteArray := prog_15_method_65_code
def yJ9_max_7cf53 : MethodName := ⟨RJ9, "max", "(II)I"⟩
abbrev cJ9_min_7cf53 : ByteArray := prog_15_method_69_code
def yJ9_min_7cf53 : MethodName := ⟨RJ9, "min", "(II)I"⟩
def RJ0 : String := "java/lang/String"
def TJ0 : u_T := fun k => match k with
  | 0 => ("java/lang/String", "value", "[B", true)
  | _ => ("java/lang/String", "coder", "B", true)
def tyJ0 : Nat → FieldType := fun k => match k with
  | 0 => .array .byte
  | _ => .byte
abbrev wsJ00 : List Cond := u_ws RJ0 TJ0 2
theorem nmJ0 : ∀ a, a < 2 → ∀ b, b < 2 → a ≠ b → (TJ0 a).2.1 ≠ (TJ0 b).2.1 := by decide +kernel
theorem tyJ0_ok : ∀ k, k < 2 → parseFieldDescriptor (TJ0 k).2.2.1 = some (tyJ0 k) := by decide +kernel
def RJ10 : String := "java/lang/System"
def TJ10 : u_T := fun k => match k with
  | _ => ("", "", "", false)
def tyJ10 : Nat → FieldType := fun k => match k with
  | _ => .int
abbrev wsJ100 : List Cond := u_ws RJ10 TJ10 0
theorem nmJ10 : ∀ a, a < 0 → ∀ b, b < 0 → a ≠ b → (TJ10 a).2.1 ≠ (TJ10 b).2.1 := by decide +kernel
theorem tyJ10_ok : ∀ k, k < 0 → parseFieldDescriptor (TJ10 k).2.2.1 = some (tyJ10 k) := by decide +kernel
def RJxa1e45 : String := "java/util/AbstractCollection"
def TJxa1e45 : u_T := fun k => match k with
  | _ => ("", "", "", false)
def tyJxa1e45 : Nat → FieldType := fun k => match k with
  | _ => .int
abbrev wsJxa1e450 : List Cond := u_ws RJxa1e45 TJxa1e45 0
theorem nmJxa1e45 : ∀ a, a < 0 → ∀ b, b < 0 → a ≠ b → (TJxa1e45 a).2.1 ≠ (TJxa1e45 b).2.1 := by decide +kernel
theorem tyJxa1e45_ok : ∀ k, k < 0 → parseFieldDescriptor (TJxa1e45 k).2.2.1 = some (tyJxa1e45 k) := by decide +kernel
abbrev cJxa1e45_init_da8c8 : ByteArray := prog_21_method_1_code
def yJxa1e45_init_da8c8 : MethodName := ⟨RJxa1e45, "<init>", "()V"⟩
def RJxc12de : String := "java/util/AbstractList"
def TJxc12de : u_T := fun k => match k with
  | _ => ("", "", "", false)
def tyJxc12de : Nat → FieldType := fun k => match k with
  | _ => .int
abbrev wsJxc12de0 : List Cond := u_ws RJxc12de TJxc12de 0
theorem nmJxc12de : ∀ a, a < 0 → ∀ b, b < 0 → a ≠ b → (TJxc12de a).2.1 ≠ (TJxc12de b).2.1 := by decide +kernel
theorem tyJxc12de_ok : ∀ k, k < 0 → parseFieldDescriptor (TJxc12de k).2.2.1 = some (tyJxc12de k) := by decide +kernel
abbrev cJxc12de_init_da8c8 : ByteArray := prog_22_method_1_code
def yJxc12de_init_da8c8 : MethodName := ⟨RJxc12de, "<init>", "()V"⟩
def RJx4a65c : String := "java/util/ArrayList"
def TJx4a65c : u_T := fun k => match k with
  | 0 => ("java/util/AbstractList", "modCount", "I", false)
  | 1 => ("java/util/ArrayList", "elementData", "[Ljava/lang/Object;", false)
  | _ => ("java/util/ArrayList", "size", "I", false)
def tyJx4a65c : Nat → FieldType := fun k => match k with
  | 0 => .int
  | 1 => .array (.object "java/lang/Object")
  | _ => .int
abbrev wsJx4a65c0 : List Cond := u_ws RJx4a65c TJx4a65c 3
theorem nmJx4a65c : ∀ a, a < 3 → ∀ b, b < 3 → a ≠ b → (TJx4a65c a).2.1 ≠ (TJx4a65c b).2.1 := by decide +kernel
theorem tyJx4a65c_ok : ∀ k, k < 3 → parseFieldDescriptor (TJx4a65c k).2.2.1 = some (tyJx4a65c k) := by decide +kernel
abbrev cJx4a65c_init_da8c8 : ByteArray := prog_23_method_2_code
def yJx4a65c_init_da8c8 : MethodName := ⟨RJx4a65c, "<init>", "()V"⟩
abbrev cJx4a65c_grow_92f84 : ByteArray := prog_23_method_6_code
def yJx4a65c_grow_92f84 : MethodName := ⟨RJx4a65c, "grow", "(I)[Ljava/lang/Object;"⟩
abbrev cJx4a65c_grow_d5877 : ByteArray := prog_23_method_7_code
def yJx4a65c_grow_d5877 : MethodName := ⟨RJx4a65c, "grow", "()[Ljava/lang/Object;"⟩
abbrev cJx4a65c_size_8abf5 : ByteArray := prog_23_method_8_code
def yJx4a65c_size_8abf5 : MethodName := ⟨RJx4a65c, "size", "()I"⟩
abbrev cJx4a65c_isEmpty_aae02 : ByteArray := prog_23_method_9_code
def yJx4a65c_isEmpty_aae02 : MethodName := ⟨RJx4a65c, "isEmpty", "()Z"⟩
abbrev cJx4a65c_elementData_915e3 : ByteArray := prog_23_method_18_code
def yJx4a65c_elementData_915e3 : MethodName := ⟨RJx4a65c, "elementData", "(I)Ljava/lang/Object;"⟩
abbrev cJx4a65c_get_915e3 : ByteArray := prog_23_method_20_code
def yJx4a65c_get_915e3 : MethodName := ⟨RJx4a65c, "get", "(I)Ljava/lang/Object;"⟩
abbrev cJx4a65c_add_72be8 : ByteArray := prog_23_method_24_code
def yJx4a65c_add_72be8 : MethodName := ⟨RJx4a65c, "add", "(Ljava/lang/Object;[Ljava/lang/Object;I)V"⟩
abbrev cJx4a65c_add_9ea2d : ByteArray := prog_23_method_25_code
def yJx4a65c_add_9ea2d : MethodName := ⟨RJx4a65c, "add", "(Ljava/lang/Object;)Z"⟩
abbrev cJx4a65c_remove_915e3 : ByteArray := prog_23_method_29_code
def yJx4a65c_remove_915e3 : MethodName := ⟨RJx4a65c, "remove", "(I)Ljava/lang/Object;"⟩
abbrev cJx4a65c_fastRemove_b59b0 : ByteArray := prog_23_method_39_code
def yJx4a65c_fastRemove_b59b0 : MethodName := ⟨RJx4a65c, "fastRemove", "([Ljava/lang/Object;I)V"⟩
abbrev cJx4a65c_clear_da8c8 : ByteArray := prog_23_method_40_code
def yJx4a65c_clear_da8c8 : MethodName := ⟨RJx4a65c, "clear", "()V"⟩
def RJ7 : String := "java/util/Arrays"
def TJ7 : u_T := fun k => match k with
  | _ => ("", "", "", false)
def tyJ7 : Nat → FieldType := fun k => match k with
  | _ => .int
abbrev wsJ70 : List Cond := u_ws RJ7 TJ7 0
theorem nmJ7 : ∀ a, a < 0 → ∀ b, b < 0 → a ≠ b → (TJ7 a).2.1 ≠ (TJ7 b).2.1 := by decide +kernel
theorem tyJ7_ok : ∀ k, k < 0 → parseFieldDescriptor (TJ7 k).2.2.1 = some (tyJ7 k) := by decide +kernel
abbrev cJ7_copyOf_1904c : ByteArray := prog_24_method_119_code
def yJ7_copyOf_1904c : MethodName := ⟨RJ7, "copyOf", "([Ljava/lang/Object;I)[Ljava/lang/Object;"⟩
abbrev cJ7_copyOf_6403c : ByteArray := prog_24_method_120_code
def yJ7_copyOf_6403c : MethodName := ⟨RJ7, "copyOf", "([Ljava/lang/Object;ILjava/lang/Class;)[Ljava/lang/Object;"⟩
def RJx5ef63 : String := "java/util/Collection"
def TJx5ef63 : u_T := fun k => match k with
  | _ => ("", "", "", false)
def tyJx5ef63 : Nat → FieldType := fun k => match k with
  | _ => .int
abbrev wsJx5ef630 : List Cond := u_ws RJx5ef63 TJx5ef63 0
theorem nmJx5ef63 : ∀ a, a < 0 → ∀ b, b < 0 → a ≠ b → (TJx5ef63 a).2.1 ≠ (TJx5ef63 b).2.1 := by decide +kernel
theorem tyJx5ef63_ok : ∀ k, k < 0 → parseFieldDescriptor (TJx5ef63 k).2.2.1 = some (tyJx5ef63 k) := by decide +kernel
def RJxbd725 : String := "java/util/List"
def TJxbd725 : u_T := fun k => match k with
  | _ => ("", "", "", false)
def tyJxbd725 : Nat → FieldType := fun k => match k with
  | _ => .int
abbrev wsJxbd7250 : List Cond := u_ws RJxbd725 TJxbd725 0
theorem nmJxbd725 : ∀ a, a < 0 → ∀ b, b < 0 → a ≠ b → (TJxbd725 a).2.1 ≠ (TJxbd725 b).2.1 := by decide +kernel
theorem tyJxbd725_ok : ∀ k, k < 0 → parseFieldDescriptor (TJxbd725 k).2.2.1 = some (tyJxbd725 k) := by decide +kernel
def RJ15 : String := "java/util/Objects"
def TJ15 : u_T := fun k => match k with
  | _ => ("", "", "", false)
def tyJ15 : Nat → FieldType := fun k => match k with
  | _ => .int
abbrev wsJ150 : List Cond := u_ws RJ15 TJ15 0
theorem nmJ15 : ∀ a, a < 0 → ∀ b, b < 0 → a ≠ b → (TJ15 a).2.1 ≠ (TJ15 b).2.1 := by decide +kernel
theorem tyJ15_ok : ∀ k, k < 0 → parseFieldDescriptor (TJ15 k).2.2.1 = some (tyJ15 k) := by decide +kernel
abbrev cJ15_checkIndex_7cf53 : ByteArray := prog_28_method_17_code
def yJ15_checkIndex_7cf53 : MethodName := ⟨RJ15, "checkIndex", "(II)I"⟩
def RJxf0a74 : String := "java/util/RandomAccess"
def TJxf0a74 : u_T := fun k => match k with
  | _ => ("", "", "", false)
def tyJxf0a74 : Nat → FieldType := fun k => match k with
  | _ => .int
abbrev wsJxf0a740 : List Cond := u_ws RJxf0a74 TJxf0a74 0
theorem nmJxf0a74 : ∀ a, a < 0 → ∀ b, b < 0 → a ≠ b → (TJxf0a74 a).2.1 ≠ (TJxf0a74 b).2.1 := by decide +kernel
theorem tyJxf0a74_ok : ∀ k, k < 0 → parseFieldDescriptor (TJxf0a74 k).2.2.1 = some (tyJxf0a74 k) := by decide +kernel
def RJxa66e6 : String := "java/util/SequencedCollection"
def TJxa66e6 : u_T := fun k => match k with
  | _ => ("", "", "", false)
def tyJxa66e6 : Nat → FieldType := fun k => match k with
  | _ => .int
abbrev wsJxa66e60 : List Cond := u_ws RJxa66e6 TJxa66e6 0
theorem nmJxa66e6 : ∀ a, a < 0 → ∀ b, b < 0 → a ≠ b → (TJxa66e6 a).2.1 ≠ (TJxa66e6 b).2.1 := by decide +kernel
theorem tyJxa66e6_ok : ∀ k, k < 0 → parseFieldDescriptor (TJxa66e6 k).2.2.1 = some (tyJxa66e6 k) := by decide +kernel
def RJ8 : String := "jdk/internal/util/ArraysSupport"
def TJ8 : u_T := fun k => match k with
  | _ => ("", "", "", false)
def tyJ8 : Nat → FieldType := fun k => match k with
  | _ => .int
abbrev wsJ80 : List Cond := u_ws RJ8 TJ8 0
theorem nmJ8 : ∀ a, a < 0 → ∀ b, b < 0 → a ≠ b → (TJ8 a).2.1 ≠ (TJ8 b).2.1 := by decide +kernel
theorem tyJ8_ok : ∀ k, k < 0 → parseFieldDescriptor (TJ8 k).2.2.1 = some (tyJ8 k) := by decide +kernel
abbrev cJ8_newLength_cabcc : ByteArray := prog_31_method_27_code
def yJ8_newLength_cabcc : MethodName := ⟨RJ8, "newLength", "(III)I"⟩
abbrev cJ8_hugeLength_7cf53 : ByteArray := prog_31_method_28_code
def yJ8_hugeLength_7cf53 : MethodName := ⟨RJ8, "hugeLength", "(II)I"⟩
def RJ3 : String := "jdk/internal/util/Preconditions"
def TJ3 : u_T := fun k => match k with
  | _ => ("", "", "", false)
def tyJ3 : Nat → FieldType := fun k => match k with
  | _ => .int
abbrev wsJ30 : List Cond := u_ws RJ3 TJ3 0
theorem nmJ3 : ∀ a, a < 0 → ∀ b, b < 0 → a ≠ b → (TJ3 a).2.1 ≠ (TJ3 b).2.1 := by decide +kernel
theorem tyJ3_ok : ∀ k, k < 0 → parseFieldDescriptor (TJ3 k).2.2.1 = some (tyJ3 k) := by decide +kernel
abbrev cJ3_checkIndex_8e157 : ByteArray := prog_32_method_11_code
def yJ3_checkIndex_8e157 : MethodName := ⟨RJ3, "checkIndex", "(IILjava/util/function/BiFunction;)I"⟩
def RL : String := "OpenFloorsLaw"
abbrev cL_addFloor : ByteArray := method_3_code
def yL_addFloor : MethodName := ⟨RL, "addFloor", "(LOpenFloors;II[J)I"⟩
abbrev cL_setCost : ByteArray := method_4_code
def yL_setCost : MethodName := ⟨RL, "setCost", "(LOpenFloors;II[J)I"⟩
abbrev cL_addPerson : ByteArray := method_5_code
def yL_addPerson : MethodName := ⟨RL, "addPerson", "(LOpenFloors;I[J)I"⟩
abbrev cL_standing : ByteArray := method_6_code
def yL_standing : MethodName := ⟨RL, "standing", "(LOpenFloors;I[J)I"⟩
abbrev cL_book : ByteArray := method_7_code
def yL_book : MethodName := ⟨RL, "book", "(LOpenFloors;II[J)I"⟩
abbrev cL_cancel : ByteArray := method_8_code
def yL_cancel : MethodName := ⟨RL, "cancel", "(LOpenFloors;I[J)I"⟩
abbrev cL_bookingAt : ByteArray := method_9_code
def yL_bookingAt : MethodName := ⟨RL, "bookingAt", "(LOpenFloors;I[J)I"⟩
abbrev cL_lossOf : ByteArray := method_10_code
def yL_lossOf : MethodName := ⟨RL, "lossOf", "(LOpenFloors;I[J)I"⟩
abbrev cL_nextDay : ByteArray := method_11_code
def yL_nextDay : MethodName := ⟨RL, "nextDay", "(LOpenFloors;[J)I"⟩
abbrev cL_comeIn : ByteArray := method_12_code
def yL_comeIn : MethodName := ⟨RL, "comeIn", "(LOpenFloors;I[J)I"⟩
abbrev cL_leave : ByteArray := method_13_code
def yL_leave : MethodName := ⟨RL, "leave", "(LOpenFloors;I[J)I"⟩
abbrev cL_seatOf : ByteArray := method_14_code
def yL_seatOf : MethodName := ⟨RL, "seatOf", "(LOpenFloors;I[J)I"⟩
abbrev cL_isIn : ByteArray := method_15_code
def yL_isIn : MethodName := ⟨RL, "isIn", "(LOpenFloors;I[J)I"⟩
abbrev cL_isOpen : ByteArray := method_16_code
def yL_isOpen : MethodName := ⟨RL, "isOpen", "(LOpenFloors;I[J)I"⟩
abbrev cL_seated : ByteArray := method_17_code
def yL_seated : MethodName := ⟨RL, "seated", "(LOpenFloors;II[J)I"⟩
abbrev cL_pass : ByteArray := method_18_code
def yL_pass : MethodName := ⟨RL, "pass", "(LOpenFloors;I[J)I"⟩
abbrev cL_warmth : ByteArray := method_19_code
def yL_warmth : MethodName := ⟨RL, "warmth", "(LOpenFloors;I[J)I"⟩
abbrev cL_air : ByteArray := method_20_code
def yL_air : MethodName := ⟨RL, "air", "(LOpenFloors;I[J)I"⟩
abbrev cL_meanStanding : ByteArray := method_21_code
def yL_meanStanding : MethodName := ⟨RL, "meanStanding", "(LOpenFloors;[D)I"⟩
abbrev cL_givenShare : ByteArray := method_22_code
def yL_givenShare : MethodName := ⟨RL, "givenShare", "(LOpenFloors;[D)I"⟩
abbrev cL_law : ByteArray := code
def yL_law : MethodName := ⟨RL, "law", "([I)Z"⟩
abbrev vwCl : List vw_C := [(RJ0, TJ0, 2), (RJx00060, TJx00060, 6), (RJx4a65c, TJx4a65c, 3), (RX0, TX0, 7), (RX1, TX1, 7), (RX2, TX2, 8), (RX3, TX3, 22)]
end
section
theorem dX0_init_0 : decode cX0_init 0 = .ok (.aload_n 0, 1) := by decide +kernel
theorem dX0_init_1 : decode cX0_init 1 = .ok (.invokespecial 3, 3) := by decide +kernel
theorem dX0_init_4 : decode cX0_init 4 = .ok (.aload_n 0, 1) := by decide +kernel
theorem dX0_init_5 : decode cX0_init 5 = .ok (.iconst 0, 1) := by decide +kernel
theorem dX0_init_6 : decode cX0_init 6 = .ok (.putfield 9, 3) := by decide +kernel
theorem dX0_init_9 : decode cX0_init 9 = .ok (.aload_n 0, 1) := by decide +kernel
theorem dX0_init_10 : decode cX0_init 10 = .ok (.sipush 180, 3) := by decide +kernel
theorem dX0_init_13 : decode cX0_init 13 = .ok (.putfield 15, 3) := by decide +kernel
theorem dX0_init_16 : decode cX0_init 16 = .ok (.aload_n 0, 1) := by decide +kernel
theorem dX0_init_17 : decode cX0_init 17 = .ok (.sipush 400, 3) := by decide +kernel
theorem dX0_init_20 : decode cX0_init 20 = .ok (.putfield 19, 3) := by decide +kernel
theorem dX0_init_23 : decode cX0_init 23 = .ok (.aload_n 0, 1) := by decide +kernel
theorem dX0_init_24 : decode cX0_init 24 = .ok (.bipush 13, 2) := by decide +kernel
theorem dX0_init_26 : decode cX0_init 26 = .ok (.newarray .int, 2) := by decide +kernel
theorem dX0_init_28 : decode cX0_init 28 = .ok (.putfield 22, 3) := by decide +kernel
theorem dX0_init_31 : decode cX0_init 31 = .ok (.aload_n 0, 1) := by decide +kernel
theorem dX0_init_32 : decode cX0_init 32 = .ok (.iload_n 1, 1) := by decide +kernel
theorem dX0_init_33 : decode cX0_init 33 = .ok (.putfield 26, 3) := by decide +kernel
theorem dX0_init_36 : decode cX0_init 36 = .ok (.aload_n 0, 1) := by decide +kernel
theorem dX0_init_37 : decode cX0_init 37 = .ok (.iload_n 2, 1) := by decide +kernel
theorem dX0_init_38 : decode cX0_init 38 = .ok (.putfield 29, 3) := by decide +kernel
theorem dX0_init_41 : decode cX0_init 41 = .ok (.aload_n 0, 1) := by decide +kernel
theorem dX0_init_42 : decode cX0_init 42 = .ok (.iload_n 3, 1) := by decide +kernel
theorem dX0_init_43 : decode cX0_init 43 = .ok (.putfield 32, 3) := by decide +kernel
theorem dX0_init_46 : decode cX0_init 46 = .ok (.return_, 1) := by decide +kernel
theorem dX0_bit_0 : decode cX0_bit 0 = .ok (.iconst 1, 1) := by decide +kernel
theorem dX0_bit_1 : decode cX0_bit 1 = .ok (.aload_n 0, 1) := by decide +kernel
theorem dX0_bit_2 : decode cX0_bit 2 = .ok (.getfield 26, 3) := by decide +kernel
theorem dX0_bit_5 : decode cX0_bit 5 = .ok (.ishl, 1) := by decide +kernel
theorem dX0_bit_6 : decode cX0_bit 6 = .ok (.ireturn, 1) := by decide +kernel
theorem dX0_isPartOf_0 : decode cX0_isPartOf 0 = .ok (.iload_n 1, 1) := by decide +kernel
theorem dX0_isPartOf_1 : decode cX0_isPartOf 1 = .ok (.aload_n 0, 1) := by decide +kernel
theorem dX0_isPartOf_2 : decode cX0_isPartOf 2 = .ok (.invokevirtual 35, 3) := by decide +kernel
theorem dX0_isPartOf_5 : decode cX0_isPartOf 5 = .ok (.iand, 1) := by decide +kernel
theorem dX0_isPartOf_6 : decode cX0_isPartOf 6 = .ok (.ifCond .eq 7, 3) := by decide +kernel
theorem dX0_isPartOf_9 : decode cX0_isPartOf 9 = .ok (.iconst 1, 1) := by decide +kernel
theorem dX0_isPartOf_10 : decode cX0_isPartOf 10 = .ok (.goto 4, 3) := by decide +kernel
theorem dX0_isPartOf_13 : decode cX0_isPartOf 13 = .ok (.iconst 0, 1) := by decide +kernel
theorem dX0_isPartOf_14 : decode cX0_isPartOf 14 = .ok (.ireturn, 1) := by decide +kernel
theorem dX0_distanceTo_0 : decode cX0_distanceTo 0 = .ok (.aload_n 0, 1) := by decide +kernel
theorem dX0_distanceTo_1 : decode cX0_distanceTo 1 = .ok (.getfield 26, 3) := by decide +kernel
theorem dX0_distanceTo_4 : decode cX0_distanceTo 4 = .ok (.aload_n 1, 1) := by decide +kernel
theorem dX0_distanceTo_5 : decode cX0_distanceTo 5 = .ok (.getfield 26, 3) := by decide +kernel
theorem dX0_distanceTo_8 : decode cX0_distanceTo 8 = .ok (.isub, 1) := by decide +kernel
theorem dX0_distanceTo_9 : decode cX0_distanceTo 9 = .ok (.invokestatic 39, 3) := by decide +kernel
theorem dX0_distanceTo_12 : decode cX0_distanceTo 12 = .ok (.ireturn, 1) := by decide +kernel
theorem dX0_forgetKeys_0 : decode cX0_forgetKeys 0 = .ok (.iconst 0, 1) := by decide +kernel
theorem dX0_forgetKeys_1 : decode cX0_forgetKeys 1 = .ok (.istore_n 1, 1) := by decide +kernel
theorem dX0_forgetKeys_2 : decode cX0_forgetKeys 2 = .ok (.iload_n 1, 1) := by decide +kernel
theorem dX0_forgetKeys_3 : decode cX0_forgetKeys 3 = .ok (.aload_n 0, 1) := by decide +kernel
theorem dX0_forgetKeys_4 : decode cX0_forgetKeys 4 = .ok (.getfield 22, 3) := by decide +kernel
theorem dX0_forgetKeys_7 : decode cX0_forgetKeys 7 = .ok (.arraylength, 1) := by decide +kernel
theorem dX0_forgetKeys_8 : decode cX0_forgetKeys 8 = .ok (.if_icmp .ge 17, 3) := by decide +kernel
theorem dX0_forgetKeys_11 : decode cX0_forgetKeys 11 = .ok (.aload_n 0, 1) := by decide +kernel
theorem dX0_forgetKeys_12 : decode cX0_forgetKeys 12 = .ok (.getfield 22, 3) := by decide +kernel
theorem dX0_forgetKeys_15 : decode cX0_forgetKeys 15 = .ok (.iload_n 1, 1) := by decide +kernel
theorem dX0_forgetKeys_16 : decode cX0_forgetKeys 16 = .ok (.ldc 45, 2) := by decide +kernel
theorem dX0_forgetKeys_18 : decode cX0_forgetKeys 18 = .ok (.iastore, 1) := by decide +kernel
theorem dX0_forgetKeys_19 : decode cX0_forgetKeys 19 = .ok (.iinc 1 1, 3) := by decide +kernel
theorem dX0_forgetKeys_22 : decode cX0_forgetKeys 22 = .ok (.goto (-20), 3) := by decide +kernel
theorem dX0_forgetKeys_25 : decode cX0_forgetKeys 25 = .ok (.return_, 1) := by decide +kernel
theorem dX0_keyFor_0 : decode cX0_keyFor 0 = .ok (.iload_n 1, 1) := by decide +kernel
theorem dX0_keyFor_1 : decode cX0_keyFor 1 = .ok (.ifCond .lt 16, 3) := by decide +kernel
theorem dX0_keyFor_4 : decode cX0_keyFor 4 = .ok (.iload_n 1, 1) := by decide +kernel
theorem dX0_keyFor_5 : decode cX0_keyFor 5 = .ok (.aload_n 0, 1) := by decide +kernel
theorem dX0_keyFor_6 : decode cX0_keyFor 6 = .ok (.getfield 22, 3) := by decide +kernel
theorem dX0_keyFor_9 : decode cX0_keyFor 9 = .ok (.arraylength, 1) := by decide +kernel
theorem dX0_keyFor_10 : decode cX0_keyFor 10 = .ok (.if_icmp .ge 7, 3) := by decide +kernel
theorem dX0_keyFor_13 : decode cX0_keyFor 13 = .ok (.iconst 1, 1) := by decide +kernel
theorem dX0_keyFor_14 : decode cX0_keyFor 14 = .ok (.goto 4, 3) := by decide +kernel
theorem dX0_keyFor_17 : decode cX0_keyFor 17 = .ok (.iconst 0, 1) := by decide +kernel
theorem dX0_keyFor_18 : decode cX0_keyFor 18 = .ok (.istore_n 2, 1) := by decide +kernel
theorem dX0_keyFor_19 : decode cX0_keyFor 19 = .ok (.iload_n 2, 1) := by decide +kernel
theorem dX0_keyFor_20 : decode cX0_keyFor 20 = .ok (.ifCond .eq 12, 3) := by decide +kernel
theorem dX0_keyFor_23 : decode cX0_keyFor 23 = .ok (.aload_n 0, 1) := by decide +kernel
theorem dX0_keyFor_24 : decode cX0_keyFor 24 = .ok (.getfield 22, 3) := by decide +kernel
theorem dX0_keyFor_27 : decode cX0_keyFor 27 = .ok (.iload_n 1, 1) := by decide +kernel
theorem dX0_keyFor_28 : decode cX0_keyFor 28 = .ok (.iaload, 1) := by decide +kernel
theorem dX0_keyFor_29 : decode cX0_keyFor 29 = .ok (.goto 5, 3) := by decide +kernel
theorem dX0_keyFor_32 : decode cX0_keyFor 32 = .ok (.ldc 45, 2) := by decide +kernel
theorem dX0_keyFor_34 : decode cX0_keyFor 34 = .ok (.ireturn, 1) := by decide +kernel
theorem dX0_offerKey_0 : decode cX0_offerKey 0 = .ok (.iload_n 1, 1) := by decide +kernel
theorem dX0_offerKey_1 : decode cX0_offerKey 1 = .ok (.ifCond .lt 29, 3) := by decide +kernel
theorem dX0_offerKey_4 : decode cX0_offerKey 4 = .ok (.iload_n 1, 1) := by decide +kernel
theorem dX0_offerKey_5 : decode cX0_offerKey 5 = .ok (.aload_n 0, 1) := by decide +kernel
theorem dX0_offerKey_6 : decode cX0_offerKey 6 = .ok (.getfield 22, 3) := by decide +kernel
theorem dX0_offerKey_9 : decode cX0_offerKey 9 = .ok (.arraylength, 1) := by decide +kernel
theorem dX0_offerKey_10 : decode cX0_offerKey 10 = .ok (.if_icmp .ge 20, 3) := by decide +kernel
theorem dX0_offerKey_13 : decode cX0_offerKey 13 = .ok (.iload_n 2, 1) := by decide +kernel
theorem dX0_offerKey_14 : decode cX0_offerKey 14 = .ok (.aload_n 0, 1) := by decide +kernel
theorem dX0_offerKey_15 : decode cX0_offerKey 15 = .ok (.getfield 22, 3) := by decide +kernel
theorem dX0_offerKey_18 : decode cX0_offerKey 18 = .ok (.iload_n 1, 1) := by decide +kernel
theorem dX0_offerKey_19 : decode cX0_offerKey 19 = .ok (.iaload, 1) := by decide +kernel
theorem dX0_offerKey_20 : decode cX0_offerKey 20 = .ok (.if_icmp .ge 10, 3) := by decide +kernel
theorem dX0_offerKey_23 : decode cX0_offerKey 23 = .ok (.aload_n 0, 1) := by decide +kernel
theorem dX0_offerKey_24 : decode cX0_offerKey 24 = .ok (.getfield 22, 3) := by decide +kernel
theorem dX0_offerKey_27 : decode cX0_offerKey 27 = .ok (.iload_n 1, 1) := by decide +kernel
theorem dX0_offerKey_28 : decode cX0_offerKey 28 = .ok (.iload_n 2, 1) := by decide +kernel
theorem dX0_offerKey_29 : decode cX0_offerKey 29 = .ok (.iastore, 1) := by decide +kernel
theorem dX0_offerKey_30 : decode cX0_offerKey 30 = .ok (.return_, 1) := by decide +kernel
theorem dX0_followWarmth_0 : decode cX0_followWarmth 0 = .ok (.aload_n 0, 1) := by decide +kernel
theorem dX0_followWarmth_1 : decode cX0_followWarmth 1 = .ok (.getfield 9, 3) := by decide +kernel
theorem dX0_followWarmth_4 : decode cX0_followWarmth 4 = .ok (.ifCond .eq 13, 3) := by decide +kernel
theorem dX0_followWarmth_7 : decode cX0_followWarmth 7 = .ok (.sipush 210, 3) := by decide +kernel
theorem dX0_followWarmth_10 : decode cX0_followWarmth 10 = .ok (.iconst 4, 1) := by decide +kernel
theorem dX0_followWarmth_11 : decode cX0_followWarmth 11 = .ok (.iload_n 1, 1) := by decide +kernel
theorem dX0_followWarmth_12 : decode cX0_followWarmth 12 = .ok (.imul, 1) := by decide +kernel
theorem dX0_followWarmth_13 : decode cX0_followWarmth 13 = .ok (.iadd, 1) := by decide +kernel
theorem dX0_followWarmth_14 : decode cX0_followWarmth 14 = .ok (.goto 6, 3) := by decide +kernel
theorem dX0_followWarmth_17 : decode cX0_followWarmth 17 = .ok (.sipush 150, 3) := by decide +kernel
theorem dX0_followWarmth_20 : decode cX0_followWarmth 20 = .ok (.istore_n 2, 1) := by decide +kernel
theorem dX0_followWarmth_21 : decode cX0_followWarmth 21 = .ok (.iload_n 2, 1) := by decide +kernel
theorem dX0_followWarmth_22 : decode cX0_followWarmth 22 = .ok (.aload_n 0, 1) := by decide +kernel
theorem dX0_followWarmth_23 : decode cX0_followWarmth 23 = .ok (.getfield 15, 3) := by decide +kernel
theorem dX0_followWarmth_26 : decode cX0_followWarmth 26 = .ok (.isub, 1) := by decide +kernel
theorem dX0_followWarmth_27 : decode cX0_followWarmth 27 = .ok (.iconst 4, 1) := by decide +kernel
theorem dX0_followWarmth_28 : decode cX0_followWarmth 28 = .ok (.idiv, 1) := by decide +kernel
theorem dX0_followWarmth_29 : decode cX0_followWarmth 29 = .ok (.istore_n 3, 1) := by decide +kernel
theorem dX0_followWarmth_30 : decode cX0_followWarmth 30 = .ok (.aload_n 0, 1) := by decide +kernel
theorem dX0_followWarmth_31 : decode cX0_followWarmth 31 = .ok (.dup, 1) := by decide +kernel
theorem dX0_followWarmth_32 : decode cX0_followWarmth 32 = .ok (.getfield 15, 3) := by decide +kernel
theorem dX0_followWarmth_35 : decode cX0_followWarmth 35 = .ok (.iload_n 3, 1) := by decide +kernel
theorem dX0_followWarmth_36 : decode cX0_followWarmth 36 = .ok (.iadd, 1) := by decide +kernel
theorem dX0_followWarmth_37 : decode cX0_followWarmth 37 = .ok (.putfield 15, 3) := by decide +kernel
theorem dX0_followWarmth_40 : decode cX0_followWarmth 40 = .ok (.aload_n 0, 1) := by decide +kernel
theorem dX0_followWarmth_41 : decode cX0_followWarmth 41 = .ok (.getfield 9, 3) := by decide +kernel
theorem dX0_followWarmth_44 : decode cX0_followWarmth 44 = .ok (.ifCond .eq 10, 3) := by decide +kernel
theorem dX0_followWarmth_47 : decode cX0_followWarmth 47 = .ok (.iload_n 3, 1) := by decide +kernel
theorem dX0_followWarmth_48 : decode cX0_followWarmth 48 = .ok (.invokestatic 39, 3) := by decide +kernel
theorem dX0_followWarmth_51 : decode cX0_followWarmth 51 = .ok (.goto 4, 3) := by decide +kernel
theorem dX0_followWarmth_54 : decode cX0_followWarmth 54 = .ok (.iconst 0, 1) := by decide +kernel
theorem dX0_followWarmth_55 : decode cX0_followWarmth 55 = .ok (.ireturn, 1) := by decide +kernel
theorem dX0_followAir_0 : decode cX0_followAir 0 = .ok (.aload_n 0, 1) := by decide +kernel
theorem dX0_followAir_1 : decode cX0_followAir 1 = .ok (.getfield 9, 3) := by decide +kernel
theorem dX0_followAir_4 : decode cX0_followAir 4 = .ok (.ifCond .eq 8, 3) := by decide +kernel
theorem dX0_followAir_7 : decode cX0_followAir 7 = .ok (.bipush 30, 2) := by decide +kernel
theorem dX0_followAir_9 : decode cX0_followAir 9 = .ok (.goto 5, 3) := by decide +kernel
theorem dX0_followAir_12 : decode cX0_followAir 12 = .ok (.bipush 10, 2) := by decide +kernel
theorem dX0_followAir_14 : decode cX0_followAir 14 = .ok (.istore_n 2, 1) := by decide +kernel
theorem dX0_followAir_15 : decode cX0_followAir 15 = .ok (.aload_n 0, 1) := by decide +kernel
theorem dX0_followAir_16 : decode cX0_followAir 16 = .ok (.aload_n 0, 1) := by decide +kernel
theorem dX0_followAir_17 : decode cX0_followAir 17 = .ok (.getfield 19, 3) := by decide +kernel
theorem dX0_followAir_20 : decode cX0_followAir 20 = .ok (.bipush 25, 2) := by decide +kernel
theorem dX0_followAir_22 : decode cX0_followAir 22 = .ok (.iload_n 1, 1) := by decide +kernel
theorem dX0_followAir_23 : decode cX0_followAir 23 = .ok (.imul, 1) := by decide +kernel
theorem dX0_followAir_24 : decode cX0_followAir 24 = .ok (.iadd, 1) := by decide +kernel
theorem dX0_followAir_25 : decode cX0_followAir 25 = .ok (.iload_n 2, 1) := by decide +kernel
theorem dX0_followAir_26 : decode cX0_followAir 26 = .ok (.isub, 1) := by decide +kernel
theorem dX0_followAir_27 : decode cX0_followAir 27 = .ok (.sipush 400, 3) := by decide +kernel
theorem dX0_followAir_30 : decode cX0_followAir 30 = .ok (.invokestatic 46, 3) := by decide +kernel
theorem dX0_followAir_33 : decode cX0_followAir 33 = .ok (.putfield 19, 3) := by decide +kernel
theorem dX0_followAir_36 : decode cX0_followAir 36 = .ok (.return_, 1) := by decide +kernel
theorem dX0_discomfortOfOnePerson_0 : decode cX0_discomfortOfOnePerson 0 = .ok (.aload_n 0, 1) := by decide +kernel
theorem dX0_discomfortOfOnePerson_1 : decode cX0_discomfortOfOnePerson 1 = .ok (.getfield 15, 3) := by decide +kernel
theorem dX0_discomfortOfOnePerson_4 : decode cX0_discomfortOfOnePerson 4 = .ok (.sipush 215, 3) := by decide +kernel
theorem dX0_discomfortOfOnePerson_7 : decode cX0_discomfortOfOnePerson 7 = .ok (.isub, 1) := by decide +kernel
theorem dX0_discomfortOfOnePerson_8 : decode cX0_discomfortOfOnePerson 8 = .ok (.invokestatic 39, 3) := by decide +kernel
theorem dX0_discomfortOfOnePerson_11 : decode cX0_discomfortOfOnePerson 11 = .ok (.bipush 10, 2) := by decide +kernel
theorem dX0_discomfortOfOnePerson_13 : decode cX0_discomfortOfOnePerson 13 = .ok (.idiv, 1) := by decide +kernel
theorem dX0_discomfortOfOnePerson_14 : decode cX0_discomfortOfOnePerson 14 = .ok (.istore_n 1, 1) := by decide +kernel
theorem dX0_discomfortOfOnePerson_15 : decode cX0_discomfortOfOnePerson 15 = .ok (.aload_n 0, 1) := by decide +kernel
theorem dX0_discomfortOfOnePerson_16 : decode cX0_discomfortOfOnePerson 16 = .ok (.getfield 19, 3) := by decide +kernel
theorem dX0_discomfortOfOnePerson_19 : decode cX0_discomfortOfOnePerson 19 = .ok (.sipush 500, 3) := by decide +kernel
theorem dX0_discomfortOfOnePerson_22 : decode cX0_discomfortOfOnePerson 22 = .ok (.if_icmp .le 9, 3) := by decide +kernel
theorem dX0_discomfortOfOnePerson_25 : decode cX0_discomfortOfOnePerson 25 = .ok (.iload_n 1, 1) := by decide +kernel
theorem dX0_discomfortOfOnePerson_26 : decode cX0_discomfortOfOnePerson 26 = .ok (.iconst 1, 1) := by decide +kernel
theorem dX0_discomfortOfOnePerson_27 : decode cX0_discomfortOfOnePerson 27 = .ok (.iadd, 1) := by decide +kernel
theorem dX0_discomfortOfOnePerson_28 : decode cX0_discomfortOfOnePerson 28 = .ok (.goto 4, 3) := by decide +kernel
theorem dX0_discomfortOfOnePerson_31 : decode cX0_discomfortOfOnePerson 31 = .ok (.iload_n 1, 1) := by decide +kernel
theorem dX0_discomfortOfOnePerson_32 : decode cX0_discomfortOfOnePerson 32 = .ok (.ireturn, 1) := by decide +kernel
theorem dX1_init_0 : decode cX1_init 0 = .ok (.aload_n 0, 1) := by decide +kernel
theorem dX1_init_1 : decode cX1_init 1 = .ok (.invokespecial 3, 3) := by decide +kernel
theorem dX1_init_4 : decode cX1_init 4 = .ok (.aload_n 0, 1) := by decide +kernel
theorem dX1_init_5 : decode cX1_init 5 = .ok (.iconst 5, 1) := by decide +kernel
theorem dX1_init_6 : decode cX1_init 6 = .ok (.putfield 9, 3) := by decide +kernel
theorem dX1_init_9 : decode cX1_init 9 = .ok (.aload_n 0, 1) := by decide +kernel
theorem dX1_init_10 : decode cX1_init 10 = .ok (.aconst_null, 1) := by decide +kernel
theorem dX1_init_11 : decode cX1_init 11 = .ok (.putfield 15, 3) := by decide +kernel
theorem dX1_init_14 : decode cX1_init 14 = .ok (.aload_n 0, 1) := by decide +kernel
theorem dX1_init_15 : decode cX1_init 15 = .ok (.aconst_null, 1) := by decide +kernel
theorem dX1_init_16 : decode cX1_init 16 = .ok (.putfield 19, 3) := by decide +kernel
theorem dX1_init_19 : decode cX1_init 19 = .ok (.aload_n 0, 1) := by decide +kernel
theorem dX1_init_20 : decode cX1_init 20 = .ok (.iconst 0, 1) := by decide +kernel
theorem dX1_init_21 : decode cX1_init 21 = .ok (.putfield 22, 3) := by decide +kernel
theorem dX1_init_24 : decode cX1_init 24 = .ok (.aload_n 0, 1) := by decide +kernel
theorem dX1_init_25 : decode cX1_init 25 = .ok (.iconst 0, 1) := by decide +kernel
theorem dX1_init_26 : decode cX1_init 26 = .ok (.putfield 26, 3) := by decide +kernel
theorem dX1_init_29 : decode cX1_init 29 = .ok (.aload_n 0, 1) := by decide +kernel
theorem dX1_init_30 : decode cX1_init 30 = .ok (.iload_n 1, 1) := by decide +kernel
theorem dX1_init_31 : decode cX1_init 31 = .ok (.putfield 29, 3) := by decide +kernel
theorem dX1_init_34 : decode cX1_init 34 = .ok (.aload_n 0, 1) := by decide +kernel
theorem dX1_init_35 : decode cX1_init 35 = .ok (.iload_n 2, 1) := by decide +kernel
theorem dX1_init_36 : decode cX1_init 36 = .ok (.putfield 32, 3) := by decide +kernel
theorem dX1_init_39 : decode cX1_init 39 = .ok (.return_, 1) := by decide +kernel
theorem dX1_isNoShow_0 : decode cX1_isNoShow 0 = .ok (.aload_n 0, 1) := by decide +kernel
theorem dX1_isNoShow_1 : decode cX1_isNoShow 1 = .ok (.getfield 19, 3) := by decide +kernel
theorem dX1_isNoShow_4 : decode cX1_isNoShow 4 = .ok (.ifnull 14, 3) := by decide +kernel
theorem dX1_isNoShow_7 : decode cX1_isNoShow 7 = .ok (.aload_n 0, 1) := by decide +kernel
theorem dX1_isNoShow_8 : decode cX1_isNoShow 8 = .ok (.getfield 26, 3) := by decide +kernel
theorem dX1_isNoShow_11 : decode cX1_isNoShow 11 = .ok (.ifCond .ne 7, 3) := by decide +kernel
theorem dX1_isNoShow_14 : decode cX1_isNoShow 14 = .ok (.iconst 1, 1) := by decide +kernel
theorem dX1_isNoShow_15 : decode cX1_isNoShow 15 = .ok (.goto 4, 3) := by decide +kernel
theorem dX1_isNoShow_18 : decode cX1_isNoShow 18 = .ok (.iconst 0, 1) := by decide +kernel
theorem dX1_isNoShow_19 : decode cX1_isNoShow 19 = .ok (.ireturn, 1) := by decide +kernel
theorem dX1_judge_0 : decode cX1_judge 0 = .ok (.aload_n 0, 1) := by decide +kernel
theorem dX1_judge_1 : decode cX1_judge 1 = .ok (.getfield 19, 3) := by decide +kernel
theorem dX1_judge_4 : decode cX1_judge 4 = .ok (.ifnonnull 4, 3) := by decide +kernel
theorem dX1_judge_7 : decode cX1_judge 7 = .ok (.return_, 1) := by decide +kernel
theorem dX1_judge_8 : decode cX1_judge 8 = .ok (.aload_n 0, 1) := by decide +kernel
theorem dX1_judge_9 : decode cX1_judge 9 = .ok (.getfield 26, 3) := by decide +kernel
theorem dX1_judge_12 : decode cX1_judge 12 = .ok (.ifCond .eq 12, 3) := by decide +kernel
theorem dX1_judge_15 : decode cX1_judge 15 = .ok (.aload_n 0, 1) := by decide +kernel
theorem dX1_judge_16 : decode cX1_judge 16 = .ok (.getfield 9, 3) := by decide +kernel
theorem dX1_judge_19 : decode cX1_judge 19 = .ok (.iconst 1, 1) := by decide +kernel
theorem dX1_judge_20 : decode cX1_judge 20 = .ok (.iadd, 1) := by decide +kernel
theorem dX1_judge_21 : decode cX1_judge 21 = .ok (.goto 9, 3) := by decide +kernel
theorem dX1_judge_24 : decode cX1_judge 24 = .ok (.aload_n 0, 1) := by decide +kernel
theorem dX1_judge_25 : decode cX1_judge 25 = .ok (.getfield 9, 3) := by decide +kernel
theorem dX1_judge_28 : decode cX1_judge 28 = .ok (.iconst 1, 1) := by decide +kernel
theorem dX1_judge_29 : decode cX1_judge 29 = .ok (.isub, 1) := by decide +kernel
theorem dX1_judge_30 : decode cX1_judge 30 = .ok (.istore_n 1, 1) := by decide +kernel
theorem dX1_judge_31 : decode cX1_judge 31 = .ok (.aload_n 0, 1) := by decide +kernel
theorem dX1_judge_32 : decode cX1_judge 32 = .ok (.iconst 0, 1) := by decide +kernel
theorem dX1_judge_33 : decode cX1_judge 33 = .ok (.iload_n 1, 1) := by decide +kernel
theorem dX1_judge_34 : decode cX1_judge 34 = .ok (.bipush 10, 2) := by decide +kernel
theorem dX1_judge_36 : decode cX1_judge 36 = .ok (.invokestatic 35, 3) := by decide +kernel
theorem dX1_judge_39 : decode cX1_judge 39 = .ok (.invokestatic 41, 3) := by decide +kernel
theorem dX1_judge_42 : decode cX1_judge 42 = .ok (.putfield 9, 3) := by decide +kernel
theorem dX1_judge_45 : decode cX1_judge 45 = .ok (.return_, 1) := by decide +kernel
theorem dX1_goHome_0 : decode cX1_goHome 0 = .ok (.aload_n 0, 1) := by decide +kernel
theorem dX1_goHome_1 : decode cX1_goHome 1 = .ok (.aconst_null, 1) := by decide +kernel
theorem dX1_goHome_2 : decode cX1_goHome 2 = .ok (.putfield 19, 3) := by decide +kernel
theorem dX1_goHome_5 : decode cX1_goHome 5 = .ok (.aload_n 0, 1) := by decide +kernel
theorem dX1_goHome_6 : decode cX1_goHome 6 = .ok (.iconst 0, 1) := by decide +kernel
theorem dX1_goHome_7 : decode cX1_goHome 7 = .ok (.putfield 22, 3) := by decide +kernel
theorem dX1_goHome_10 : decode cX1_goHome 10 = .ok (.aload_n 0, 1) := by decide +kernel
theorem dX1_goHome_11 : decode cX1_goHome 11 = .ok (.iconst 0, 1) := by decide +kernel
theorem dX1_goHome_12 : decode cX1_goHome 12 = .ok (.putfield 26, 3) := by decide +kernel
theorem dX1_goHome_15 : decode cX1_goHome 15 = .ok (.return_, 1) := by decide +kernel
theorem dX2_init_0 : decode cX2_init 0 = .ok (.aload_n 0, 1) := by decide +kernel
theorem dX2_init_1 : decode cX2_init 1 = .ok (.invokespecial 3, 3) := by decide +kernel
theorem dX2_init_4 : decode cX2_init 4 = .ok (.aload_n 0, 1) := by decide +kernel
theorem dX2_init_5 : decode cX2_init 5 = .ok (.new 9, 3) := by decide +kernel
theorem dX2_init_8 : decode cX2_init 8 = .ok (.dup, 1) := by decide +kernel
theorem dX2_init_9 : decode cX2_init 9 = .ok (.invokespecial 11, 3) := by decide +kernel
theorem dX2_init_12 : decode cX2_init 12 = .ok (.putfield 12, 3) := by decide +kernel
theorem dX2_init_15 : decode cX2_init 15 = .ok (.aload_n 0, 1) := by decide +kernel
theorem dX2_init_16 : decode cX2_init 16 = .ok (.new 9, 3) := by decide +kernel
theorem dX2_init_19 : decode cX2_init 19 = .ok (.dup, 1) := by decide +kernel
theorem dX2_init_20 : decode cX2_init 20 = .ok (.invokespecial 11, 3) := by decide +kernel
theorem dX2_init_23 : decode cX2_init 23 = .ok (.putfield 18, 3) := by decide +kernel
theorem dX2_init_26 : decode cX2_init 26 = .ok (.aload_n 0, 1) := by decide +kernel
theorem dX2_init_27 : decode cX2_init 27 = .ok (.new 9, 3) := by decide +kernel
theorem dX2_init_30 : decode cX2_init 30 = .ok (.dup, 1) := by decide +kernel
theorem dX2_init_31 : decode cX2_init 31 = .ok (.invokespecial 11, 3) := by decide +kernel
theorem dX2_init_34 : decode cX2_init 34 = .ok (.putfield 21, 3) := by decide +kernel
theorem dX2_init_37 : decode cX2_init 37 = .ok (.aload_n 0, 1) := by decide +kernel
theorem dX2_init_38 : decode cX2_init 38 = .ok (.iconst 0, 1) := by decide +kernel
theorem dX2_init_39 : decode cX2_init 39 = .ok (.putfield 24, 3) := by decide +kernel
theorem dX2_init_42 : decode cX2_init 42 = .ok (.aload_n 0, 1) := by decide +kernel
theorem dX2_init_43 : decode cX2_init 43 = .ok (.iconst 0, 1) := by decide +kernel
theorem dX2_init_44 : decode cX2_init 44 = .ok (.putfield 28, 3) := by decide +kernel
theorem dX2_init_47 : decode cX2_init 47 = .ok (.aload_n 0, 1) := by decide +kernel
theorem dX2_init_48 : decode cX2_init 48 = .ok (.lconst 0, 1) := by decide +kernel
theorem dX2_init_49 : decode cX2_init 49 = .ok (.putfield 31, 3) := by decide +kernel
theorem dX2_init_52 : decode cX2_init 52 = .ok (.aload_n 0, 1) := by decide +kernel
theorem dX2_init_53 : decode cX2_init 53 = .ok (.lconst 0, 1) := by decide +kernel
theorem dX2_init_54 : decode cX2_init 54 = .ok (.putfield 35, 3) := by decide +kernel
theorem dX2_init_57 : decode cX2_init 57 = .ok (.aload_n 0, 1) := by decide +kernel
theorem dX2_init_58 : decode cX2_init 58 = .ok (.lconst 0, 1) := by decide +kernel
theorem dX2_init_59 : decode cX2_init 59 = .ok (.putfield 38, 3) := by decide +kernel
theorem dX2_init_62 : decode cX2_init 62 = .ok (.return_, 1) := by decide +kernel
theorem dX2_addFloor_0 : decode cX2_addFloor 0 = .ok (.iload_n 1, 1) := by decide +kernel
theorem dX2_addFloor_1 : decode cX2_addFloor 1 = .ok (.iconst 1, 1) := by decide +kernel
theorem dX2_addFloor_2 : decode cX2_addFloor 2 = .ok (.if_icmp .lt 9, 3) := by decide +kernel
theorem dX2_addFloor_5 : decode cX2_addFloor 5 = .ok (.iload_n 1, 1) := by decide +kernel
theorem dX2_addFloor_6 : decode cX2_addFloor 6 = .ok (.bipush 12, 2) := by decide +kernel
theorem dX2_addFloor_8 : decode cX2_addFloor 8 = .ok (.if_icmp .le 13, 3) := by decide +kernel
theorem dX2_addFloor_11 : decode cX2_addFloor 11 = .ok (.new 41, 3) := by decide +kernel
theorem dX2_addFloor_14 : decode cX2_addFloor 14 = .ok (.dup, 1) := by decide +kernel
theorem dX2_addFloor_15 : decode cX2_addFloor 15 = .ok (.ldc 43, 2) := by decide +kernel
theorem dX2_addFloor_17 : decode cX2_addFloor 17 = .ok (.invokespecial 45, 3) := by decide +kernel
theorem dX2_addFloor_20 : decode cX2_addFloor 20 = .ok (.athrow, 1) := by decide +kernel
theorem dX2_addFloor_21 : decode cX2_addFloor 21 = .ok (.iload_n 2, 1) := by decide +kernel
theorem dX2_addFloor_22 : decode cX2_addFloor 22 = .ok (.invokestatic 48, 3) := by decide +kernel
theorem dX2_addFloor_25 : decode cX2_addFloor 25 = .ok (.aload_n 0, 1) := by decide +kernel
theorem dX2_addFloor_26 : decode cX2_addFloor 26 = .ok (.getfield 12, 3) := by decide +kernel
theorem dX2_addFloor_29 : decode cX2_addFloor 29 = .ok (.invokevirtual 52, 3) := by decide +kernel
theorem dX2_addFloor_32 : decode cX2_addFloor 32 = .ok (.istore_n 3, 1) := by decide +kernel
theorem dX2_addFloor_33 : decode cX2_addFloor 33 = .ok (.iload_n 3, 1) := by decide +kernel
theorem dX2_addFloor_34 : decode cX2_addFloor 34 = .ok (.bipush 6, 2) := by decide +kernel
theorem dX2_addFloor_36 : decode cX2_addFloor 36 = .ok (.if_icmp .lt 13, 3) := by decide +kernel
theorem dX2_addFloor_39 : decode cX2_addFloor 39 = .ok (.new 56, 3) := by decide +kernel
theorem dX2_addFloor_42 : decode cX2_addFloor 42 = .ok (.dup, 1) := by decide +kernel
theorem dX2_addFloor_43 : decode cX2_addFloor 43 = .ok (.ldc 58, 2) := by decide +kernel
theorem dX2_addFloor_45 : decode cX2_addFloor 45 = .ok (.invokespecial 60, 3) := by decide +kernel
theorem dX2_addFloor_48 : decode cX2_addFloor 48 = .ok (.athrow, 1) := by decide +kernel
theorem dX2_addFloor_49 : decode cX2_addFloor 49 = .ok (.aload_n 0, 1) := by decide +kernel
theorem dX2_addFloor_50 : decode cX2_addFloor 50 = .ok (.getfield 12, 3) := by decide +kernel
theorem dX2_addFloor_53 : decode cX2_addFloor 53 = .ok (.new 61, 3) := by decide +kernel
theorem dX2_addFloor_56 : decode cX2_addFloor 56 = .ok (.dup, 1) := by decide +kernel
theorem dX2_addFloor_57 : decode cX2_addFloor 57 = .ok (.iload_n 3, 1) := by decide +kernel
theorem dX2_addFloor_58 : decode cX2_addFloor 58 = .ok (.iload_n 1, 1) := by decide +kernel
theorem dX2_addFloor_59 : decode cX2_addFloor 59 = .ok (.iload_n 2, 1) := by decide +kernel
theorem dX2_addFloor_60 : decode cX2_addFloor 60 = .ok (.invokespecial 63, 3) := by decide +kernel
theorem dX2_addFloor_63 : decode cX2_addFloor 63 = .ok (.invokevirtual 66, 3) := by decide +kernel
theorem dX2_addFloor_66 : decode cX2_addFloor 66 = .ok (.pop, 1) := by decide +kernel
theorem dX2_addFloor_67 : decode cX2_addFloor 67 = .ok (.iload_n 3, 1) := by decide +kernel
theorem dX2_addFloor_68 : decode cX2_addFloor 68 = .ok (.ireturn, 1) := by decide +kernel
theorem dX2_setCost_0 : decode cX2_setCost 0 = .ok (.aload_n 0, 1) := by decide +kernel
theorem dX2_setCost_1 : decode cX2_setCost 1 = .ok (.iload_n 1, 1) := by decide +kernel
theorem dX2_setCost_2 : decode cX2_setCost 2 = .ok (.invokevirtual 70, 3) := by decide +kernel
theorem dX2_setCost_5 : decode cX2_setCost 5 = .ok (.astore_n 3, 1) := by decide +kernel
theorem dX2_setCost_6 : decode cX2_setCost 6 = .ok (.iload_n 2, 1) := by decide +kernel
theorem dX2_setCost_7 : decode cX2_setCost 7 = .ok (.invokestatic 48, 3) := by decide +kernel
theorem dX2_setCost_10 : decode cX2_setCost 10 = .ok (.aload_n 3, 1) := by decide +kernel
theorem dX2_setCost_11 : decode cX2_setCost 11 = .ok (.getfield 74, 3) := by decide +kernel
theorem dX2_setCost_14 : decode cX2_setCost 14 = .ok (.istore 4, 2) := by decide +kernel
theorem dX2_setCost_16 : decode cX2_setCost 16 = .ok (.aload_n 3, 1) := by decide +kernel
theorem dX2_setCost_17 : decode cX2_setCost 17 = .ok (.iload_n 2, 1) := by decide +kernel
theorem dX2_setCost_18 : decode cX2_setCost 18 = .ok (.putfield 74, 3) := by decide +kernel
theorem dX2_setCost_21 : decode cX2_setCost 21 = .ok (.iload 4, 2) := by decide +kernel
theorem dX2_setCost_23 : decode cX2_setCost 23 = .ok (.ireturn, 1) := by decide +kernel
theorem dX2_addPerson_0 : decode cX2_addPerson 0 = .ok (.iload_n 1, 1) := by decide +kernel
theorem dX2_addPerson_1 : decode cX2_addPerson 1 = .ok (.invokestatic 77, 3) := by decide +kernel
theorem dX2_addPerson_4 : decode cX2_addPerson 4 = .ok (.aload_n 0, 1) := by decide +kernel
theorem dX2_addPerson_5 : decode cX2_addPerson 5 = .ok (.getfield 18, 3) := by decide +kernel
theorem dX2_addPerson_8 : decode cX2_addPerson 8 = .ok (.invokevirtual 52, 3) := by decide +kernel
theorem dX2_addPerson_11 : decode cX2_addPerson 11 = .ok (.istore_n 2, 1) := by decide +kernel
theorem dX2_addPerson_12 : decode cX2_addPerson 12 = .ok (.iload_n 2, 1) := by decide +kernel
theorem dX2_addPerson_13 : decode cX2_addPerson 13 = .ok (.bipush 12, 2) := by decide +kernel
theorem dX2_addPerson_15 : decode cX2_addPerson 15 = .ok (.if_icmp .lt 13, 3) := by decide +kernel
theorem dX2_addPerson_18 : decode cX2_addPerson 18 = .ok (.new 56, 3) := by decide +kernel
theorem dX2_addPerson_21 : decode cX2_addPerson 21 = .ok (.dup, 1) := by decide +kernel
theorem dX2_addPerson_22 : decode cX2_addPerson 22 = .ok (.ldc 80, 2) := by decide +kernel
theorem dX2_addPerson_24 : decode cX2_addPerson 24 = .ok (.invokespecial 60, 3) := by decide +kernel
theorem dX2_addPerson_27 : decode cX2_addPerson 27 = .ok (.athrow, 1) := by decide +kernel
theorem dX2_addPerson_28 : decode cX2_addPerson 28 = .ok (.aload_n 0, 1) := by decide +kernel
theorem dX2_addPerson_29 : decode cX2_addPerson 29 = .ok (.getfield 18, 3) := by decide +kernel
theorem dX2_addPerson_32 : decode cX2_addPerson 32 = .ok (.new 82, 3) := by decide +kernel
theorem dX2_addPerson_35 : decode cX2_addPerson 35 = .ok (.dup, 1) := by decide +kernel
theorem dX2_addPerson_36 : decode cX2_addPerson 36 = .ok (.iload_n 2, 1) := by decide +kernel
theorem dX2_addPerson_37 : decode cX2_addPerson 37 = .ok (.iload_n 1, 1) := by decide +kernel
theorem dX2_addPerson_38 : decode cX2_addPerson 38 = .ok (.invokespecial 84, 3) := by decide +kernel
theorem dX2_addPerson_41 : decode cX2_addPerson 41 = .ok (.invokevirtual 66, 3) := by decide +kernel
theorem dX2_addPerson_44 : decode cX2_addPerson 44 = .ok (.pop, 1) := by decide +kernel
theorem dX2_addPerson_45 : decode cX2_addPerson 45 = .ok (.iload_n 2, 1) := by decide +kernel
theorem dX2_addPerson_46 : decode cX2_addPerson 46 = .ok (.ireturn, 1) := by decide +kernel
theorem dX2_standing_0 : decode cX2_standing 0 = .ok (.aload_n 0, 1) := by decide +kernel
theorem dX2_standing_1 : decode cX2_standing 1 = .ok (.iload_n 1, 1) := by decide +kernel
theorem dX2_standing_2 : decode cX2_standing 2 = .ok (.invokevirtual 87, 3) := by decide +kernel
theorem dX2_standing_5 : decode cX2_standing 5 = .ok (.getfield 91, 3) := by decide +kernel
theorem dX2_standing_8 : decode cX2_standing 8 = .ok (.ireturn, 1) := by decide +kernel
theorem dX2_book_0 : decode cX2_book 0 = .ok (.aload_n 0, 1) := by decide +kernel
theorem dX2_book_1 : decode cX2_book 1 = .ok (.iload_n 1, 1) := by decide +kernel
theorem dX2_book_2 : decode cX2_book 2 = .ok (.invokevirtual 87, 3) := by decide +kernel
theorem dX2_book_5 : decode cX2_book 5 = .ok (.astore_n 3, 1) := by decide +kernel
theorem dX2_book_6 : decode cX2_book 6 = .ok (.aload_n 0, 1) := by decide +kernel
theorem dX2_book_7 : decode cX2_book 7 = .ok (.iload_n 2, 1) := by decide +kernel
theorem dX2_book_8 : decode cX2_book 8 = .ok (.invokevirtual 70, 3) := by decide +kernel
theorem dX2_book_11 : decode cX2_book 11 = .ok (.astore 4, 2) := by decide +kernel
theorem dX2_book_13 : decode cX2_book 13 = .ok (.aload_n 3, 1) := by decide +kernel
theorem dX2_book_14 : decode cX2_book 14 = .ok (.getfield 94, 3) := by decide +kernel
theorem dX2_book_17 : decode cX2_book 17 = .ok (.ifnull 13, 3) := by decide +kernel
theorem dX2_book_20 : decode cX2_book 20 = .ok (.new 56, 3) := by decide +kernel
theorem dX2_book_23 : decode cX2_book 23 = .ok (.dup, 1) := by decide +kernel
theorem dX2_book_24 : decode cX2_book 24 = .ok (.ldc 98, 2) := by decide +kernel
theorem dX2_book_26 : decode cX2_book 26 = .ok (.invokespecial 60, 3) := by decide +kernel
theorem dX2_book_29 : decode cX2_book 29 = .ok (.athrow, 1) := by decide +kernel
theorem dX2_book_30 : decode cX2_book 30 = .ok (.aload_n 0, 1) := by decide +kernel
theorem dX2_book_31 : decode cX2_book 31 = .ok (.getfield 21, 3) := by decide +kernel
theorem dX2_book_34 : decode cX2_book 34 = .ok (.invokevirtual 52, 3) := by decide +kernel
theorem dX2_book_37 : decode cX2_book 37 = .ok (.aload_n 0, 1) := by decide +kernel
theorem dX2_book_38 : decode cX2_book 38 = .ok (.aload_n 0, 1) := by decide +kernel
theorem dX2_book_39 : decode cX2_book 39 = .ok (.invokevirtual 100, 3) := by decide +kernel
theorem dX2_book_42 : decode cX2_book 42 = .ok (.invokevirtual 103, 3) := by decide +kernel
theorem dX2_book_45 : decode cX2_book 45 = .ok (.if_icmp .lt 13, 3) := by decide +kernel
theorem dX2_book_48 : decode cX2_book 48 = .ok (.new 107, 3) := by decide +kernel
theorem dX2_book_51 : decode cX2_book 51 = .ok (.dup, 1) := by decide +kernel
theorem dX2_book_52 : decode cX2_book 52 = .ok (.ldc 109, 2) := by decide +kernel
theorem dX2_book_54 : decode cX2_book 54 = .ok (.invokespecial 111, 3) := by decide +kernel
theorem dX2_book_57 : decode cX2_book 57 = .ok (.athrow, 1) := by decide +kernel
theorem dX2_book_58 : decode cX2_book 58 = .ok (.aload_n 3, 1) := by decide +kernel
theorem dX2_book_59 : decode cX2_book 59 = .ok (.aload 4, 2) := by decide +kernel
theorem dX2_book_61 : decode cX2_book 61 = .ok (.putfield 94, 3) := by decide +kernel
theorem dX2_book_64 : decode cX2_book 64 = .ok (.aload_n 0, 1) := by decide +kernel
theorem dX2_book_65 : decode cX2_book 65 = .ok (.getfield 21, 3) := by decide +kernel
theorem dX2_book_68 : decode cX2_book 68 = .ok (.aload_n 3, 1) := by decide +kernel
theorem dX2_book_69 : decode cX2_book 69 = .ok (.invokevirtual 66, 3) := by decide +kernel
theorem dX2_book_72 : decode cX2_book 72 = .ok (.pop, 1) := by decide +kernel
theorem dX2_book_73 : decode cX2_book 73 = .ok (.aload_n 0, 1) := by decide +kernel
theorem dX2_book_74 : decode cX2_book 74 = .ok (.getfield 21, 3) := by decide +kernel
theorem dX2_book_77 : decode cX2_book 77 = .ok (.invokevirtual 52, 3) := by decide +kernel
theorem dX2_book_80 : decode cX2_book 80 = .ok (.ireturn, 1) := by decide +kernel
theorem dX2_cancel_0 : decode cX2_cancel 0 = .ok (.aload_n 0, 1) := by decide +kernel
theorem dX2_cancel_1 : decode cX2_cancel 1 = .ok (.iload_n 1, 1) := by decide +kernel
theorem dX2_cancel_2 : decode cX2_cancel 2 = .ok (.invokevirtual 87, 3) := by decide +kernel
theorem dX2_cancel_5 : decode cX2_cancel 5 = .ok (.astore_n 2, 1) := by decide +kernel
theorem dX2_cancel_6 : decode cX2_cancel 6 = .ok (.aload_n 2, 1) := by decide +kernel
theorem dX2_cancel_7 : decode cX2_cancel 7 = .ok (.getfield 94, 3) := by decide +kernel
theorem dX2_cancel_10 : decode cX2_cancel 10 = .ok (.astore_n 3, 1) := by decide +kernel
theorem dX2_cancel_11 : decode cX2_cancel 11 = .ok (.aload_n 3, 1) := by decide +kernel
theorem dX2_cancel_12 : decode cX2_cancel 12 = .ok (.ifnonnull 13, 3) := by decide +kernel
theorem dX2_cancel_15 : decode cX2_cancel 15 = .ok (.new 112, 3) := by decide +kernel
theorem dX2_cancel_18 : decode cX2_cancel 18 = .ok (.dup, 1) := by decide +kernel
theorem dX2_cancel_19 : decode cX2_cancel 19 = .ok (.ldc 114, 2) := by decide +kernel
theorem dX2_cancel_21 : decode cX2_cancel 21 = .ok (.invokespecial 116, 3) := by decide +kernel
theorem dX2_cancel_24 : decode cX2_cancel 24 = .ok (.athrow, 1) := by decide +kernel
theorem dX2_cancel_25 : decode cX2_cancel 25 = .ok (.aload_n 2, 1) := by decide +kernel
theorem dX2_cancel_26 : decode cX2_cancel 26 = .ok (.aconst_null, 1) := by decide +kernel
theorem dX2_cancel_27 : decode cX2_cancel 27 = .ok (.putfield 94, 3) := by decide +kernel
theorem dX2_cancel_30 : decode cX2_cancel 30 = .ok (.aload_n 0, 1) := by decide +kernel
theorem dX2_cancel_31 : decode cX2_cancel 31 = .ok (.aload_n 2, 1) := by decide +kernel
theorem dX2_cancel_32 : decode cX2_cancel 32 = .ok (.invokevirtual 117, 3) := by decide +kernel
theorem dX2_cancel_35 : decode cX2_cancel 35 = .ok (.aload_n 3, 1) := by decide +kernel
theorem dX2_cancel_36 : decode cX2_cancel 36 = .ok (.getfield 121, 3) := by decide +kernel
theorem dX2_cancel_39 : decode cX2_cancel 39 = .ok (.ireturn, 1) := by decide +kernel
theorem dX2_bookings_0 : decode cX2_bookings 0 = .ok (.aload_n 0, 1) := by decide +kernel
theorem dX2_bookings_1 : decode cX2_bookings 1 = .ok (.getfield 21, 3) := by decide +kernel
theorem dX2_bookings_4 : decode cX2_bookings 4 = .ok (.invokevirtual 52, 3) := by decide +kernel
theorem dX2_bookings_7 : decode cX2_bookings 7 = .ok (.ireturn, 1) := by decide +kernel
theorem dX2_bookingAt_0 : decode cX2_bookingAt 0 = .ok (.iload_n 1, 1) := by decide +kernel
theorem dX2_bookingAt_1 : decode cX2_bookingAt 1 = .ok (.ifCond .lt 14, 3) := by decide +kernel
theorem dX2_bookingAt_4 : decode cX2_bookingAt 4 = .ok (.iload_n 1, 1) := by decide +kernel
theorem dX2_bookingAt_5 : decode cX2_bookingAt 5 = .ok (.aload_n 0, 1) := by decide +kernel
theorem dX2_bookingAt_6 : decode cX2_bookingAt 6 = .ok (.getfield 21, 3) := by decide +kernel
theorem dX2_bookingAt_9 : decode cX2_bookingAt 9 = .ok (.invokevirtual 52, 3) := by decide +kernel
theorem dX2_bookingAt_12 : decode cX2_bookingAt 12 = .ok (.if_icmp .lt 13, 3) := by decide +kernel
theorem dX2_bookingAt_15 : decode cX2_bookingAt 15 = .ok (.new 124, 3) := by decide +kernel
theorem dX2_bookingAt_18 : decode cX2_bookingAt 18 = .ok (.dup, 1) := by decide +kernel
theorem dX2_bookingAt_19 : decode cX2_bookingAt 19 = .ok (.ldc 126, 2) := by decide +kernel
theorem dX2_bookingAt_21 : decode cX2_bookingAt 21 = .ok (.invokespecial 128, 3) := by decide +kernel
theorem dX2_bookingAt_24 : decode cX2_bookingAt 24 = .ok (.athrow, 1) := by decide +kernel
theorem dX2_bookingAt_25 : decode cX2_bookingAt 25 = .ok (.aload_n 0, 1) := by decide +kernel
theorem dX2_bookingAt_26 : decode cX2_bookingAt 26 = .ok (.getfield 21, 3) := by decide +kernel
theorem dX2_bookingAt_29 : decode cX2_bookingAt 29 = .ok (.iload_n 1, 1) := by decide +kernel
theorem dX2_bookingAt_30 : decode cX2_bookingAt 30 = .ok (.invokevirtual 129, 3) := by decide +kernel
theorem dX2_bookingAt_33 : decode cX2_bookingAt 33 = .ok (.checkcast 82, 3) := by decide +kernel
theorem dX2_bookingAt_36 : decode cX2_bookingAt 36 = .ok (.getfield 133, 3) := by decide +kernel
theorem dX2_bookingAt_39 : decode cX2_bookingAt 39 = .ok (.ireturn, 1) := by decide +kernel
theorem dX2_plan_0 : decode cX2_plan 0 = .ok (.aload_n 0, 1) := by decide +kernel
theorem dX2_plan_1 : decode cX2_plan 1 = .ok (.invokevirtual 134, 3) := by decide +kernel
theorem dX2_plan_4 : decode cX2_plan 4 = .ok (.bipush 64, 2) := by decide +kernel
theorem dX2_plan_6 : decode cX2_plan 6 = .ok (.irem, 1) := by decide +kernel
theorem dX2_plan_7 : decode cX2_plan 7 = .ok (.ireturn, 1) := by decide +kernel
theorem dX2_planByTrying_0 : decode cX2_planByTrying 0 = .ok (.iconst 0, 1) := by decide +kernel
theorem dX2_planByTrying_1 : decode cX2_planByTrying 1 = .ok (.istore_n 1, 1) := by decide +kernel
theorem dX2_planByTrying_2 : decode cX2_planByTrying 2 = .ok (.ldc 137, 2) := by decide +kernel
theorem dX2_planByTrying_4 : decode cX2_planByTrying 4 = .ok (.istore_n 2, 1) := by decide +kernel
theorem dX2_planByTrying_5 : decode cX2_planByTrying 5 = .ok (.aload_n 0, 1) := by decide +kernel
theorem dX2_planByTrying_6 : decode cX2_planByTrying 6 = .ok (.invokevirtual 100, 3) := by decide +kernel
theorem dX2_planByTrying_9 : decode cX2_planByTrying 9 = .ok (.istore_n 3, 1) := by decide +kernel
theorem dX2_planByTrying_10 : decode cX2_planByTrying 10 = .ok (.iconst 0, 1) := by decide +kernel
theorem dX2_planByTrying_11 : decode cX2_planByTrying 11 = .ok (.istore 4, 2) := by decide +kernel
theorem dX2_planByTrying_13 : decode cX2_planByTrying 13 = .ok (.iload 4, 2) := by decide +kernel
theorem dX2_planByTrying_15 : decode cX2_planByTrying 15 = .ok (.iload_n 3, 1) := by decide +kernel
theorem dX2_planByTrying_16 : decode cX2_planByTrying 16 = .ok (.if_icmp .gt 43, 3) := by decide +kernel
theorem dX2_planByTrying_19 : decode cX2_planByTrying 19 = .ok (.aload_n 0, 1) := by decide +kernel
theorem dX2_planByTrying_20 : decode cX2_planByTrying 20 = .ok (.iload 4, 2) := by decide +kernel
theorem dX2_planByTrying_22 : decode cX2_planByTrying 22 = .ok (.invokevirtual 138, 3) := by decide +kernel
theorem dX2_planByTrying_25 : decode cX2_planByTrying 25 = .ok (.ifCond .eq 12, 3) := by decide +kernel
theorem dX2_planByTrying_28 : decode cX2_planByTrying 28 = .ok (.aload_n 0, 1) := by decide +kernel
theorem dX2_planByTrying_29 : decode cX2_planByTrying 29 = .ok (.iload 4, 2) := by decide +kernel
theorem dX2_planByTrying_31 : decode cX2_planByTrying 31 = .ok (.invokevirtual 142, 3) := by decide +kernel
theorem dX2_planByTrying_34 : decode cX2_planByTrying 34 = .ok (.goto 5, 3) := by decide +kernel
theorem dX2_planByTrying_37 : decode cX2_planByTrying 37 = .ok (.ldc 137, 2) := by decide +kernel
theorem dX2_planByTrying_39 : decode cX2_planByTrying 39 = .ok (.istore 5, 2) := by decide +kernel
theorem dX2_planByTrying_41 : decode cX2_planByTrying 41 = .ok (.iload 5, 2) := by decide +kernel
theorem dX2_planByTrying_43 : decode cX2_planByTrying 43 = .ok (.iload_n 2, 1) := by decide +kernel
theorem dX2_planByTrying_44 : decode cX2_planByTrying 44 = .ok (.if_icmp .ge 9, 3) := by decide +kernel
theorem dX2_planByTrying_47 : decode cX2_planByTrying 47 = .ok (.iload 4, 2) := by decide +kernel
theorem dX2_planByTrying_49 : decode cX2_planByTrying 49 = .ok (.istore_n 1, 1) := by decide +kernel
theorem dX2_planByTrying_50 : decode cX2_planByTrying 50 = .ok (.iload 5, 2) := by decide +kernel
theorem dX2_planByTrying_52 : decode cX2_planByTrying 52 = .ok (.istore_n 2, 1) := by decide +kernel
theorem dX2_planByTrying_53 : decode cX2_planByTrying 53 = .ok (.iinc 4 1, 3) := by decide +kernel
theorem dX2_planByTrying_56 : decode cX2_planByTrying 56 = .ok (.goto (-43), 3) := by decide +kernel
theorem dX2_planByTrying_59 : decode cX2_planByTrying 59 = .ok (.iload_n 1, 1) := by decide +kernel
theorem dX2_planByTrying_60 : decode cX2_planByTrying 60 = .ok (.ireturn, 1) := by decide +kernel
theorem dX2_planLoss_0 : decode cX2_planLoss 0 = .ok (.aload_n 0, 1) := by decide +kernel
theorem dX2_planLoss_1 : decode cX2_planLoss 1 = .ok (.invokevirtual 134, 3) := by decide +kernel
theorem dX2_planLoss_4 : decode cX2_planLoss 4 = .ok (.bipush 64, 2) := by decide +kernel
theorem dX2_planLoss_6 : decode cX2_planLoss 6 = .ok (.idiv, 1) := by decide +kernel
theorem dX2_planLoss_7 : decode cX2_planLoss 7 = .ok (.ireturn, 1) := by decide +kernel
theorem dX2_lossOf_0 : decode cX2_lossOf 0 = .ok (.iload_n 1, 1) := by decide +kernel
theorem dX2_lossOf_1 : decode cX2_lossOf 1 = .ok (.ifCond .lt 11, 3) := by decide +kernel
theorem dX2_lossOf_4 : decode cX2_lossOf 4 = .ok (.iload_n 1, 1) := by decide +kernel
theorem dX2_lossOf_5 : decode cX2_lossOf 5 = .ok (.aload_n 0, 1) := by decide +kernel
theorem dX2_lossOf_6 : decode cX2_lossOf 6 = .ok (.invokevirtual 100, 3) := by decide +kernel
theorem dX2_lossOf_9 : decode cX2_lossOf 9 = .ok (.if_icmp .le 13, 3) := by decide +kernel
theorem dX2_lossOf_12 : decode cX2_lossOf 12 = .ok (.new 41, 3) := by decide +kernel
theorem dX2_lossOf_15 : decode cX2_lossOf 15 = .ok (.dup, 1) := by decide +kernel
theorem dX2_lossOf_16 : decode cX2_lossOf 16 = .ok (.ldc 145, 2) := by decide +kernel
theorem dX2_lossOf_18 : decode cX2_lossOf 18 = .ok (.invokespecial 45, 3) := by decide +kernel
theorem dX2_lossOf_21 : decode cX2_lossOf 21 = .ok (.athrow, 1) := by decide +kernel
theorem dX2_lossOf_22 : decode cX2_lossOf 22 = .ok (.aload_n 0, 1) := by decide +kernel
theorem dX2_lossOf_23 : decode cX2_lossOf 23 = .ok (.iload_n 1, 1) := by decide +kernel
theorem dX2_lossOf_24 : decode cX2_lossOf 24 = .ok (.invokevirtual 138, 3) := by decide +kernel
theorem dX2_lossOf_27 : decode cX2_lossOf 27 = .ok (.ifCond .ne 13, 3) := by decide +kernel
theorem dX2_lossOf_30 : decode cX2_lossOf 30 = .ok (.new 107, 3) := by decide +kernel
theorem dX2_lossOf_33 : decode cX2_lossOf 33 = .ok (.dup, 1) := by decide +kernel
theorem dX2_lossOf_34 : decode cX2_lossOf 34 = .ok (.ldc 147, 2) := by decide +kernel
theorem dX2_lossOf_36 : decode cX2_lossOf 36 = .ok (.invokespecial 111, 3) := by decide +kernel
theorem dX2_lossOf_39 : decode cX2_lossOf 39 = .ok (.athrow, 1) := by decide +kernel
theorem dX2_lossOf_40 : decode cX2_lossOf 40 = .ok (.aload_n 0, 1) := by decide +kernel
theorem dX2_lossOf_41 : decode cX2_lossOf 41 = .ok (.iload_n 1, 1) := by decide +kernel
theorem dX2_lossOf_42 : decode cX2_lossOf 42 = .ok (.invokevirtual 142, 3) := by decide +kernel
theorem dX2_lossOf_45 : decode cX2_lossOf 45 = .ok (.ireturn, 1) := by decide +kernel
theorem dX2_nextDay_0 : decode cX2_nextDay 0 = .ok (.aload_n 0, 1) := by decide +kernel
theorem dX2_nextDay_1 : decode cX2_nextDay 1 = .ok (.getfield 24, 3) := by decide +kernel
theorem dX2_nextDay_4 : decode cX2_nextDay 4 = .ok (.sipush 365, 3) := by decide +kernel
theorem dX2_nextDay_7 : decode cX2_nextDay 7 = .ok (.if_icmp .lt 13, 3) := by decide +kernel
theorem dX2_nextDay_10 : decode cX2_nextDay 10 = .ok (.new 56, 3) := by decide +kernel
theorem dX2_nextDay_13 : decode cX2_nextDay 13 = .ok (.dup, 1) := by decide +kernel
theorem dX2_nextDay_14 : decode cX2_nextDay 14 = .ok (.ldc 149, 2) := by decide +kernel
theorem dX2_nextDay_16 : decode cX2_nextDay 16 = .ok (.invokespecial 60, 3) := by decide +kernel
theorem dX2_nextDay_19 : decode cX2_nextDay 19 = .ok (.athrow, 1) := by decide +kernel
theorem dX2_nextDay_20 : decode cX2_nextDay 20 = .ok (.aload_n 0, 1) := by decide +kernel
theorem dX2_nextDay_21 : decode cX2_nextDay 21 = .ok (.invokevirtual 151, 3) := by decide +kernel
theorem dX2_nextDay_24 : decode cX2_nextDay 24 = .ok (.istore_n 1, 1) := by decide +kernel
theorem dX2_nextDay_25 : decode cX2_nextDay 25 = .ok (.aload_n 0, 1) := by decide +kernel
theorem dX2_nextDay_26 : decode cX2_nextDay 26 = .ok (.invokevirtual 154, 3) := by decide +kernel
theorem dX2_nextDay_29 : decode cX2_nextDay 29 = .ok (.aload_n 0, 1) := by decide +kernel
theorem dX2_nextDay_30 : decode cX2_nextDay 30 = .ok (.invokevirtual 157, 3) := by decide +kernel
theorem dX2_nextDay_33 : decode cX2_nextDay 33 = .ok (.aload_n 0, 1) := by decide +kernel
theorem dX2_nextDay_34 : decode cX2_nextDay 34 = .ok (.invokevirtual 160, 3) := by decide +kernel
theorem dX2_nextDay_37 : decode cX2_nextDay 37 = .ok (.aload_n 0, 1) := by decide +kernel
theorem dX2_nextDay_38 : decode cX2_nextDay 38 = .ok (.aload_n 0, 1) := by decide +kernel
theorem dX2_nextDay_39 : decode cX2_nextDay 39 = .ok (.invokevirtual 163, 3) := by decide +kernel
theorem dX2_nextDay_42 : decode cX2_nextDay 42 = .ok (.invokevirtual 166, 3) := by decide +kernel
theorem dX2_nextDay_45 : decode cX2_nextDay 45 = .ok (.aload_n 0, 1) := by decide +kernel
theorem dX2_nextDay_46 : decode cX2_nextDay 46 = .ok (.invokevirtual 169, 3) := by decide +kernel
theorem dX2_nextDay_49 : decode cX2_nextDay 49 = .ok (.aload_n 0, 1) := by decide +kernel
theorem dX2_nextDay_50 : decode cX2_nextDay 50 = .ok (.invokevirtual 172, 3) := by decide +kernel
theorem dX2_nextDay_53 : decode cX2_nextDay 53 = .ok (.aload_n 0, 1) := by decide +kernel
theorem dX2_nextDay_54 : decode cX2_nextDay 54 = .ok (.dup, 1) := by decide +kernel
theorem dX2_nextDay_55 : decode cX2_nextDay 55 = .ok (.getfield 28, 3) := by decide +kernel
theorem dX2_nextDay_58 : decode cX2_nextDay 58 = .ok (.iload_n 1, 1) := by decide +kernel
theorem dX2_nextDay_59 : decode cX2_nextDay 59 = .ok (.iadd, 1) := by decide +kernel
theorem dX2_nextDay_60 : decode cX2_nextDay 60 = .ok (.putfield 28, 3) := by decide +kernel
theorem dX2_nextDay_63 : decode cX2_nextDay 63 = .ok (.aload_n 0, 1) := by decide +kernel
theorem dX2_nextDay_64 : decode cX2_nextDay 64 = .ok (.dup, 1) := by decide +kernel
theorem dX2_nextDay_65 : decode cX2_nextDay 65 = .ok (.getfield 24, 3) := by decide +kernel
theorem dX2_nextDay_68 : decode cX2_nextDay 68 = .ok (.iconst 1, 1) := by decide +kernel
theorem dX2_nextDay_69 : decode cX2_nextDay 69 = .ok (.iadd, 1) := by decide +kernel
theorem dX2_nextDay_70 : decode cX2_nextDay 70 = .ok (.putfield 24, 3) := by decide +kernel
theorem dX2_nextDay_73 : decode cX2_nextDay 73 = .ok (.iload_n 1, 1) := by decide +kernel
theorem dX2_nextDay_74 : decode cX2_nextDay 74 = .ok (.ireturn, 1) := by decide +kernel
theorem dX2_day_0 : decode cX2_day 0 = .ok (.aload_n 0, 1) := by decide +kernel
theorem dX2_day_1 : decode cX2_day 1 = .ok (.getfield 24, 3) := by decide +kernel
theorem dX2_day_4 : decode cX2_day 4 = .ok (.ireturn, 1) := by decide +kernel
theorem dX2_comeIn_0 : decode cX2_comeIn 0 = .ok (.aload_n 0, 1) := by decide +kernel
theorem dX2_comeIn_1 : decode cX2_comeIn 1 = .ok (.iload_n 1, 1) := by decide +kernel
theorem dX2_comeIn_2 : decode cX2_comeIn 2 = .ok (.invokevirtual 87, 3) := by decide +kernel
theorem dX2_comeIn_5 : decode cX2_comeIn 5 = .ok (.astore_n 2, 1) := by decide +kernel
theorem dX2_comeIn_6 : decode cX2_comeIn 6 = .ok (.aload_n 2, 1) := by decide +kernel
theorem dX2_comeIn_7 : decode cX2_comeIn 7 = .ok (.getfield 175, 3) := by decide +kernel
theorem dX2_comeIn_10 : decode cX2_comeIn 10 = .ok (.astore_n 3, 1) := by decide +kernel
theorem dX2_comeIn_11 : decode cX2_comeIn 11 = .ok (.aload_n 3, 1) := by decide +kernel
theorem dX2_comeIn_12 : decode cX2_comeIn 12 = .ok (.ifnonnull 13, 3) := by decide +kernel
theorem dX2_comeIn_15 : decode cX2_comeIn 15 = .ok (.new 112, 3) := by decide +kernel
theorem dX2_comeIn_18 : decode cX2_comeIn 18 = .ok (.dup, 1) := by decide +kernel
theorem dX2_comeIn_19 : decode cX2_comeIn 19 = .ok (.ldc 178, 2) := by decide +kernel
theorem dX2_comeIn_21 : decode cX2_comeIn 21 = .ok (.invokespecial 116, 3) := by decide +kernel
theorem dX2_comeIn_24 : decode cX2_comeIn 24 = .ok (.athrow, 1) := by decide +kernel
theorem dX2_comeIn_25 : decode cX2_comeIn 25 = .ok (.aload_n 2, 1) := by decide +kernel
theorem dX2_comeIn_26 : decode cX2_comeIn 26 = .ok (.getfield 180, 3) := by decide +kernel
theorem dX2_comeIn_29 : decode cX2_comeIn 29 = .ok (.ifCond .eq 13, 3) := by decide +kernel
theorem dX2_comeIn_32 : decode cX2_comeIn 32 = .ok (.new 56, 3) := by decide +kernel
theorem dX2_comeIn_35 : decode cX2_comeIn 35 = .ok (.dup, 1) := by decide +kernel
theorem dX2_comeIn_36 : decode cX2_comeIn 36 = .ok (.ldc 184, 2) := by decide +kernel
theorem dX2_comeIn_38 : decode cX2_comeIn 38 = .ok (.invokespecial 60, 3) := by decide +kernel
theorem dX2_comeIn_41 : decode cX2_comeIn 41 = .ok (.athrow, 1) := by decide +kernel
theorem dX2_comeIn_42 : decode cX2_comeIn 42 = .ok (.aload_n 2, 1) := by decide +kernel
theorem dX2_comeIn_43 : decode cX2_comeIn 43 = .ok (.iconst 1, 1) := by decide +kernel
theorem dX2_comeIn_44 : decode cX2_comeIn 44 = .ok (.putfield 180, 3) := by decide +kernel
theorem dX2_comeIn_47 : decode cX2_comeIn 47 = .ok (.aload_n 2, 1) := by decide +kernel
theorem dX2_comeIn_48 : decode cX2_comeIn 48 = .ok (.iconst 1, 1) := by decide +kernel
theorem dX2_comeIn_49 : decode cX2_comeIn 49 = .ok (.putfield 186, 3) := by decide +kernel
theorem dX2_comeIn_52 : decode cX2_comeIn 52 = .ok (.aload_n 3, 1) := by decide +kernel
theorem dX2_comeIn_53 : decode cX2_comeIn 53 = .ok (.getfield 121, 3) := by decide +kernel
theorem dX2_comeIn_56 : decode cX2_comeIn 56 = .ok (.ireturn, 1) := by decide +kernel
theorem dX2_leave_0 : decode cX2_leave 0 = .ok (.aload_n 0, 1) := by decide +kernel
theorem dX2_leave_1 : decode cX2_leave 1 = .ok (.iload_n 1, 1) := by decide +kernel
theorem dX2_leave_2 : decode cX2_leave 2 = .ok (.invokevirtual 87, 3) := by decide +kernel
theorem dX2_leave_5 : decode cX2_leave 5 = .ok (.astore_n 2, 1) := by decide +kernel
theorem dX2_leave_6 : decode cX2_leave 6 = .ok (.aload_n 2, 1) := by decide +kernel
theorem dX2_leave_7 : decode cX2_leave 7 = .ok (.getfield 180, 3) := by decide +kernel
theorem dX2_leave_10 : decode cX2_leave 10 = .ok (.ifCond .ne 13, 3) := by decide +kernel
theorem dX2_leave_13 : decode cX2_leave 13 = .ok (.new 56, 3) := by decide +kernel
theorem dX2_leave_16 : decode cX2_leave 16 = .ok (.dup, 1) := by decide +kernel
theorem dX2_leave_17 : decode cX2_leave 17 = .ok (.ldc 189, 2) := by decide +kernel
theorem dX2_leave_19 : decode cX2_leave 19 = .ok (.invokespecial 60, 3) := by decide +kernel
theorem dX2_leave_22 : decode cX2_leave 22 = .ok (.athrow, 1) := by decide +kernel
theorem dX2_leave_23 : decode cX2_leave 23 = .ok (.aload_n 2, 1) := by decide +kernel
theorem dX2_leave_24 : decode cX2_leave 24 = .ok (.iconst 0, 1) := by decide +kernel
theorem dX2_leave_25 : decode cX2_leave 25 = .ok (.putfield 180, 3) := by decide +kernel
theorem dX2_leave_28 : decode cX2_leave 28 = .ok (.aload_n 0, 1) := by decide +kernel
theorem dX2_leave_29 : decode cX2_leave 29 = .ok (.invokevirtual 191, 3) := by decide +kernel
theorem dX2_leave_32 : decode cX2_leave 32 = .ok (.ireturn, 1) := by decide +kernel
theorem dX2_seatOf_0 : decode cX2_seatOf 0 = .ok (.aload_n 0, 1) := by decide +kernel
theorem dX2_seatOf_1 : decode cX2_seatOf 1 = .ok (.iload_n 1, 1) := by decide +kernel
theorem dX2_seatOf_2 : decode cX2_seatOf 2 = .ok (.invokevirtual 87, 3) := by decide +kernel
theorem dX2_seatOf_5 : decode cX2_seatOf 5 = .ok (.getfield 175, 3) := by decide +kernel
theorem dX2_seatOf_8 : decode cX2_seatOf 8 = .ok (.astore_n 2, 1) := by decide +kernel
theorem dX2_seatOf_9 : decode cX2_seatOf 9 = .ok (.aload_n 2, 1) := by decide +kernel
theorem dX2_seatOf_10 : decode cX2_seatOf 10 = .ok (.ifnonnull 7, 3) := by decide +kernel
theorem dX2_seatOf_13 : decode cX2_seatOf 13 = .ok (.iconst (-1), 1) := by decide +kernel
theorem dX2_seatOf_14 : decode cX2_seatOf 14 = .ok (.goto 7, 3) := by decide +kernel
theorem dX2_seatOf_17 : decode cX2_seatOf 17 = .ok (.aload_n 2, 1) := by decide +kernel
theorem dX2_seatOf_18 : decode cX2_seatOf 18 = .ok (.getfield 121, 3) := by decide +kernel
theorem dX2_seatOf_21 : decode cX2_seatOf 21 = .ok (.ireturn, 1) := by decide +kernel
theorem dX2_isIn_0 : decode cX2_isIn 0 = .ok (.aload_n 0, 1) := by decide +kernel
theorem dX2_isIn_1 : decode cX2_isIn 1 = .ok (.iload_n 1, 1) := by decide +kernel
theorem dX2_isIn_2 : decode cX2_isIn 2 = .ok (.invokevirtual 87, 3) := by decide +kernel
theorem dX2_isIn_5 : decode cX2_isIn 5 = .ok (.getfield 180, 3) := by decide +kernel
theorem dX2_isIn_8 : decode cX2_isIn 8 = .ok (.ireturn, 1) := by decide +kernel
theorem dX2_isOpen_0 : decode cX2_isOpen 0 = .ok (.aload_n 0, 1) := by decide +kernel
theorem dX2_isOpen_1 : decode cX2_isOpen 1 = .ok (.iload_n 1, 1) := by decide +kernel
theorem dX2_isOpen_2 : decode cX2_isOpen 2 = .ok (.invokevirtual 70, 3) := by decide +kernel
theorem dX2_isOpen_5 : decode cX2_isOpen 5 = .ok (.getfield 194, 3) := by decide +kernel
theorem dX2_isOpen_8 : decode cX2_isOpen 8 = .ok (.ireturn, 1) := by decide +kernel
theorem dX2_seated_0 : decode cX2_seated 0 = .ok (.aload_n 0, 1) := by decide +kernel
theorem dX2_seated_1 : decode cX2_seated 1 = .ok (.iload_n 2, 1) := by decide +kernel
theorem dX2_seated_2 : decode cX2_seated 2 = .ok (.invokevirtual 70, 3) := by decide +kernel
theorem dX2_seated_5 : decode cX2_seated 5 = .ok (.astore_n 3, 1) := by decide +kernel
theorem dX2_seated_6 : decode cX2_seated 6 = .ok (.iload_n 1, 1) := by decide +kernel
theorem dX2_seated_7 : decode cX2_seated 7 = .ok (.invokestatic 77, 3) := by decide +kernel
theorem dX2_seated_10 : decode cX2_seated 10 = .ok (.aload_n 0, 1) := by decide +kernel
theorem dX2_seated_11 : decode cX2_seated 11 = .ok (.iload_n 1, 1) := by decide +kernel
theorem dX2_seated_12 : decode cX2_seated 12 = .ok (.aload_n 3, 1) := by decide +kernel
theorem dX2_seated_13 : decode cX2_seated 13 = .ok (.invokevirtual 197, 3) := by decide +kernel
theorem dX2_seated_16 : decode cX2_seated 16 = .ok (.ireturn, 1) := by decide +kernel
theorem dX2_pass_0 : decode cX2_pass 0 = .ok (.iload_n 1, 1) := by decide +kernel
theorem dX2_pass_1 : decode cX2_pass 1 = .ok (.iconst 1, 1) := by decide +kernel
theorem dX2_pass_2 : decode cX2_pass 2 = .ok (.if_icmp .lt 9, 3) := by decide +kernel
theorem dX2_pass_5 : decode cX2_pass 5 = .ok (.iload_n 1, 1) := by decide +kernel
theorem dX2_pass_6 : decode cX2_pass 6 = .ok (.bipush 24, 2) := by decide +kernel
theorem dX2_pass_8 : decode cX2_pass 8 = .ok (.if_icmp .le 13, 3) := by decide +kernel
theorem dX2_pass_11 : decode cX2_pass 11 = .ok (.new 41, 3) := by decide +kernel
theorem dX2_pass_14 : decode cX2_pass 14 = .ok (.dup, 1) := by decide +kernel
theorem dX2_pass_15 : decode cX2_pass 15 = .ok (.ldc 201, 2) := by decide +kernel
theorem dX2_pass_17 : decode cX2_pass 17 = .ok (.invokespecial 45, 3) := by decide +kernel
theorem dX2_pass_20 : decode cX2_pass 20 = .ok (.athrow, 1) := by decide +kernel
theorem dX2_pass_21 : decode cX2_pass 21 = .ok (.iconst 0, 1) := by decide +kernel
theorem dX2_pass_22 : decode cX2_pass 22 = .ok (.istore_n 2, 1) := by decide +kernel
theorem dX2_pass_23 : decode cX2_pass 23 = .ok (.iconst 0, 1) := by decide +kernel
theorem dX2_pass_24 : decode cX2_pass 24 = .ok (.istore_n 3, 1) := by decide +kernel
theorem dX2_pass_25 : decode cX2_pass 25 = .ok (.iload_n 3, 1) := by decide +kernel
theorem dX2_pass_26 : decode cX2_pass 26 = .ok (.iload_n 1, 1) := by decide +kernel
theorem dX2_pass_27 : decode cX2_pass 27 = .ok (.if_icmp .ge 49, 3) := by decide +kernel
theorem dX2_pass_30 : decode cX2_pass 30 = .ok (.iconst 0, 1) := by decide +kernel
theorem dX2_pass_31 : decode cX2_pass 31 = .ok (.istore 4, 2) := by decide +kernel
theorem dX2_pass_33 : decode cX2_pass 33 = .ok (.iload 4, 2) := by decide +kernel
theorem dX2_pass_35 : decode cX2_pass 35 = .ok (.aload_n 0, 1) := by decide +kernel
theorem dX2_pass_36 : decode cX2_pass 36 = .ok (.getfield 12, 3) := by decide +kernel
theorem dX2_pass_39 : decode cX2_pass 39 = .ok (.invokevirtual 52, 3) := by decide +kernel
theorem dX2_pass_42 : decode cX2_pass 42 = .ok (.if_icmp .ge 28, 3) := by decide +kernel
theorem dX2_pass_45 : decode cX2_pass 45 = .ok (.iload_n 2, 1) := by decide +kernel
theorem dX2_pass_46 : decode cX2_pass 46 = .ok (.aload_n 0, 1) := by decide +kernel
theorem dX2_pass_47 : decode cX2_pass 47 = .ok (.aload_n 0, 1) := by decide +kernel
theorem dX2_pass_48 : decode cX2_pass 48 = .ok (.getfield 12, 3) := by decide +kernel
theorem dX2_pass_51 : decode cX2_pass 51 = .ok (.iload 4, 2) := by decide +kernel
theorem dX2_pass_53 : decode cX2_pass 53 = .ok (.invokevirtual 129, 3) := by decide +kernel
theorem dX2_pass_56 : decode cX2_pass 56 = .ok (.checkcast 61, 3) := by decide +kernel
theorem dX2_pass_59 : decode cX2_pass 59 = .ok (.invokevirtual 203, 3) := by decide +kernel
theorem dX2_pass_62 : decode cX2_pass 62 = .ok (.iadd, 1) := by decide +kernel
theorem dX2_pass_63 : decode cX2_pass 63 = .ok (.istore_n 2, 1) := by decide +kernel
theorem dX2_pass_64 : decode cX2_pass 64 = .ok (.iinc 4 1, 3) := by decide +kernel
theorem dX2_pass_67 : decode cX2_pass 67 = .ok (.goto (-34), 3) := by decide +kernel
theorem dX2_pass_70 : decode cX2_pass 70 = .ok (.iinc 3 1, 3) := by decide +kernel
theorem dX2_pass_73 : decode cX2_pass 73 = .ok (.goto (-48), 3) := by decide +kernel
theorem dX2_pass_76 : decode cX2_pass 76 = .ok (.aload_n 0, 1) := by decide +kernel
theorem dX2_pass_77 : decode cX2_pass 77 = .ok (.dup, 1) := by decide +kernel
theorem dX2_pass_78 : decode cX2_pass 78 = .ok (.getfield 31, 3) := by decide +kernel
theorem dX2_pass_81 : decode cX2_pass 81 = .ok (.iload_n 2, 1) := by decide +kernel
theorem dX2_pass_82 : decode cX2_pass 82 = .ok (.i2l, 1) := by decide +kernel
theorem dX2_pass_83 : decode cX2_pass 83 = .ok (.ladd, 1) := by decide +kernel
theorem dX2_pass_84 : decode cX2_pass 84 = .ok (.putfield 31, 3) := by decide +kernel
theorem dX2_pass_87 : decode cX2_pass 87 = .ok (.iload_n 2, 1) := by decide +kernel
theorem dX2_pass_88 : decode cX2_pass 88 = .ok (.ireturn, 1) := by decide +kernel
theorem dX2_warmth_0 : decode cX2_warmth 0 = .ok (.aload_n 0, 1) := by decide +kernel
theorem dX2_warmth_1 : decode cX2_warmth 1 = .ok (.iload_n 1, 1) := by decide +kernel
theorem dX2_warmth_2 : decode cX2_warmth 2 = .ok (.invokevirtual 70, 3) := by decide +kernel
theorem dX2_warmth_5 : decode cX2_warmth 5 = .ok (.getfield 207, 3) := by decide +kernel
theorem dX2_warmth_8 : decode cX2_warmth 8 = .ok (.ireturn, 1) := by decide +kernel
theorem dX2_air_0 : decode cX2_air 0 = .ok (.aload_n 0, 1) := by decide +kernel
theorem dX2_air_1 : decode cX2_air 1 = .ok (.iload_n 1, 1) := by decide +kernel
theorem dX2_air_2 : decode cX2_air 2 = .ok (.invokevirtual 70, 3) := by decide +kernel
theorem dX2_air_5 : decode cX2_air 5 = .ok (.getfield 210, 3) := by decide +kernel
theorem dX2_air_8 : decode cX2_air 8 = .ok (.ireturn, 1) := by decide +kernel
theorem dX2_energy_0 : decode cX2_energy 0 = .ok (.aload_n 0, 1) := by decide +kernel
theorem dX2_energy_1 : decode cX2_energy 1 = .ok (.getfield 31, 3) := by decide +kernel
theorem dX2_energy_4 : decode cX2_energy 4 = .ok (.lreturn, 1) := by decide +kernel
theorem dX2_discomfort_0 : decode cX2_discomfort 0 = .ok (.aload_n 0, 1) := by decide +kernel
theorem dX2_discomfort_1 : decode cX2_discomfort 1 = .ok (.getfield 35, 3) := by decide +kernel
theorem dX2_discomfort_4 : decode cX2_discomfort 4 = .ok (.lreturn, 1) := by decide +kernel
theorem dX2_cleaning_0 : decode cX2_cleaning 0 = .ok (.aload_n 0, 1) := by decide +kernel
theorem dX2_cleaning_1 : decode cX2_cleaning 1 = .ok (.getfield 38, 3) := by decide +kernel
theorem dX2_cleaning_4 : decode cX2_cleaning 4 = .ok (.lreturn, 1) := by decide +kernel
theorem dX2_noShows_0 : decode cX2_noShows 0 = .ok (.aload_n 0, 1) := by decide +kernel
theorem dX2_noShows_1 : decode cX2_noShows 1 = .ok (.getfield 28, 3) := by decide +kernel
theorem dX2_noShows_4 : decode cX2_noShows 4 = .ok (.ireturn, 1) := by decide +kernel
theorem dX2_meanStanding_0 : decode cX2_meanStanding 0 = .ok (.aload_n 0, 1) := by decide +kernel
theorem dX2_meanStanding_1 : decode cX2_meanStanding 1 = .ok (.getfield 18, 3) := by decide +kernel
theorem dX2_meanStanding_4 : decode cX2_meanStanding 4 = .ok (.invokevirtual 213, 3) := by decide +kernel
theorem dX2_meanStanding_7 : decode cX2_meanStanding 7 = .ok (.ifCond .eq 13, 3) := by decide +kernel
theorem dX2_meanStanding_10 : decode cX2_meanStanding 10 = .ok (.new 217, 3) := by decide +kernel
theorem dX2_meanStanding_13 : decode cX2_meanStanding 13 = .ok (.dup, 1) := by decide +kernel
theorem dX2_meanStanding_14 : decode cX2_meanStanding 14 = .ok (.ldc 219, 2) := by decide +kernel
theorem dX2_meanStanding_16 : decode cX2_meanStanding 16 = .ok (.invokespecial 221, 3) := by decide +kernel
theorem dX2_meanStanding_19 : decode cX2_meanStanding 19 = .ok (.athrow, 1) := by decide +kernel
theorem dX2_meanStanding_20 : decode cX2_meanStanding 20 = .ok (.iconst 0, 1) := by decide +kernel
theorem dX2_meanStanding_21 : decode cX2_meanStanding 21 = .ok (.istore_n 1, 1) := by decide +kernel
theorem dX2_meanStanding_22 : decode cX2_meanStanding 22 = .ok (.iconst 0, 1) := by decide +kernel
theorem dX2_meanStanding_23 : decode cX2_meanStanding 23 = .ok (.istore_n 2, 1) := by decide +kernel
theorem dX2_meanStanding_24 : decode cX2_meanStanding 24 = .ok (.iload_n 2, 1) := by decide +kernel
theorem dX2_meanStanding_25 : decode cX2_meanStanding 25 = .ok (.aload_n 0, 1) := by decide +kernel
theorem dX2_meanStanding_26 : decode cX2_meanStanding 26 = .ok (.getfield 18, 3) := by decide +kernel
theorem dX2_meanStanding_29 : decode cX2_meanStanding 29 = .ok (.invokevirtual 52, 3) := by decide +kernel
theorem dX2_meanStanding_32 : decode cX2_meanStanding 32 = .ok (.if_icmp .ge 26, 3) := by decide +kernel
theorem dX2_meanStanding_35 : decode cX2_meanStanding 35 = .ok (.iload_n 1, 1) := by decide +kernel
theorem dX2_meanStanding_36 : decode cX2_meanStanding 36 = .ok (.aload_n 0, 1) := by decide +kernel
theorem dX2_meanStanding_37 : decode cX2_meanStanding 37 = .ok (.getfield 18, 3) := by decide +kernel
theorem dX2_meanStanding_40 : decode cX2_meanStanding 40 = .ok (.iload_n 2, 1) := by decide +kernel
theorem dX2_meanStanding_41 : decode cX2_meanStanding 41 = .ok (.invokevirtual 129, 3) := by decide +kernel
theorem dX2_meanStanding_44 : decode cX2_meanStanding 44 = .ok (.checkcast 82, 3) := by decide +kernel
theorem dX2_meanStanding_47 : decode cX2_meanStanding 47 = .ok (.getfield 91, 3) := by decide +kernel
theorem dX2_meanStanding_50 : decode cX2_meanStanding 50 = .ok (.iadd, 1) := by decide +kernel
theorem dX2_meanStanding_51 : decode cX2_meanStanding 51 = .ok (.istore_n 1, 1) := by decide +kernel
theorem dX2_meanStanding_52 : decode cX2_meanStanding 52 = .ok (.iinc 2 1, 3) := by decide +kernel
theorem dX2_meanStanding_55 : decode cX2_meanStanding 55 = .ok (.goto (-31), 3) := by decide +kernel
theorem dX2_meanStanding_58 : decode cX2_meanStanding 58 = .ok (.iload_n 1, 1) := by decide +kernel
theorem dX2_meanStanding_59 : decode cX2_meanStanding 59 = .ok (.i2d, 1) := by decide +kernel
theorem dX2_meanStanding_60 : decode cX2_meanStanding 60 = .ok (.aload_n 0, 1) := by decide +kernel
theorem dX2_meanStanding_61 : decode cX2_meanStanding 61 = .ok (.getfield 18, 3) := by decide +kernel
theorem dX2_meanStanding_64 : decode cX2_meanStanding 64 = .ok (.invokevirtual 52, 3) := by decide +kernel
theorem dX2_meanStanding_67 : decode cX2_meanStanding 67 = .ok (.i2d, 1) := by decide +kernel
theorem dX2_meanStanding_68 : decode cX2_meanStanding 68 = .ok (.ddiv, 1) := by decide +kernel
theorem dX2_meanStanding_69 : decode cX2_meanStanding 69 = .ok (.dreturn, 1) := by decide +kernel
theorem dX2_givenShare_0 : decode cX2_givenShare 0 = .ok (.iconst 0, 1) := by decide +kernel
theorem dX2_givenShare_1 : decode cX2_givenShare 1 = .ok (.istore_n 1, 1) := by decide +kernel
theorem dX2_givenShare_2 : decode cX2_givenShare 2 = .ok (.iconst 0, 1) := by decide +kernel
theorem dX2_givenShare_3 : decode cX2_givenShare 3 = .ok (.istore_n 2, 1) := by decide +kernel
theorem dX2_givenShare_4 : decode cX2_givenShare 4 = .ok (.iconst 0, 1) := by decide +kernel
theorem dX2_givenShare_5 : decode cX2_givenShare 5 = .ok (.istore_n 3, 1) := by decide +kernel
theorem dX2_givenShare_6 : decode cX2_givenShare 6 = .ok (.iload_n 3, 1) := by decide +kernel
theorem dX2_givenShare_7 : decode cX2_givenShare 7 = .ok (.aload_n 0, 1) := by decide +kernel
theorem dX2_givenShare_8 : decode cX2_givenShare 8 = .ok (.getfield 12, 3) := by decide +kernel
theorem dX2_givenShare_11 : decode cX2_givenShare 11 = .ok (.invokevirtual 52, 3) := by decide +kernel
theorem dX2_givenShare_14 : decode cX2_givenShare 14 = .ok (.if_icmp .ge 51, 3) := by decide +kernel
theorem dX2_givenShare_17 : decode cX2_givenShare 17 = .ok (.aload_n 0, 1) := by decide +kernel
theorem dX2_givenShare_18 : decode cX2_givenShare 18 = .ok (.getfield 12, 3) := by decide +kernel
theorem dX2_givenShare_21 : decode cX2_givenShare 21 = .ok (.iload_n 3, 1) := by decide +kernel
theorem dX2_givenShare_22 : decode cX2_givenShare 22 = .ok (.invokevirtual 129, 3) := by decide +kernel
theorem dX2_givenShare_25 : decode cX2_givenShare 25 = .ok (.checkcast 61, 3) := by decide +kernel
theorem dX2_givenShare_28 : decode cX2_givenShare 28 = .ok (.astore 4, 2) := by decide +kernel
theorem dX2_givenShare_30 : decode cX2_givenShare 30 = .ok (.iload_n 1, 1) := by decide +kernel
theorem dX2_givenShare_31 : decode cX2_givenShare 31 = .ok (.aload_n 0, 1) := by decide +kernel
theorem dX2_givenShare_32 : decode cX2_givenShare 32 = .ok (.aload 4, 2) := by decide +kernel
theorem dX2_givenShare_34 : decode cX2_givenShare 34 = .ok (.invokevirtual 222, 3) := by decide +kernel
theorem dX2_givenShare_37 : decode cX2_givenShare 37 = .ok (.iadd, 1) := by decide +kernel
theorem dX2_givenShare_38 : decode cX2_givenShare 38 = .ok (.istore_n 1, 1) := by decide +kernel
theorem dX2_givenShare_39 : decode cX2_givenShare 39 = .ok (.iload_n 2, 1) := by decide +kernel
theorem dX2_givenShare_40 : decode cX2_givenShare 40 = .ok (.aload 4, 2) := by decide +kernel
theorem dX2_givenShare_42 : decode cX2_givenShare 42 = .ok (.getfield 194, 3) := by decide +kernel
theorem dX2_givenShare_45 : decode cX2_givenShare 45 = .ok (.ifCond .eq 11, 3) := by decide +kernel
theorem dX2_givenShare_48 : decode cX2_givenShare 48 = .ok (.aload 4, 2) := by decide +kernel
theorem dX2_givenShare_50 : decode cX2_givenShare 50 = .ok (.getfield 225, 3) := by decide +kernel
theorem dX2_givenShare_53 : decode cX2_givenShare 53 = .ok (.goto 4, 3) := by decide +kernel
theorem dX2_givenShare_56 : decode cX2_givenShare 56 = .ok (.iconst 0, 1) := by decide +kernel
theorem dX2_givenShare_57 : decode cX2_givenShare 57 = .ok (.iadd, 1) := by decide +kernel
theorem dX2_givenShare_58 : decode cX2_givenShare 58 = .ok (.istore_n 2, 1) := by decide +kernel
theorem dX2_givenShare_59 : decode cX2_givenShare 59 = .ok (.iinc 3 1, 3) := by decide +kernel
theorem dX2_givenShare_62 : decode cX2_givenShare 62 = .ok (.goto (-56), 3) := by decide +kernel
theorem dX2_givenShare_65 : decode cX2_givenShare 65 = .ok (.iload_n 2, 1) := by decide +kernel
theorem dX2_givenShare_66 : decode cX2_givenShare 66 = .ok (.ifCond .ne 13, 3) := by decide +kernel
theorem dX2_givenShare_69 : decode cX2_givenShare 69 = .ok (.new 217, 3) := by decide +kernel
theorem dX2_givenShare_72 : decode cX2_givenShare 72 = .ok (.dup, 1) := by decide +kernel
theorem dX2_givenShare_73 : decode cX2_givenShare 73 = .ok (.ldc 228, 2) := by decide +kernel
theorem dX2_givenShare_75 : decode cX2_givenShare 75 = .ok (.invokespecial 221, 3) := by decide +kernel
theorem dX2_givenShare_78 : decode cX2_givenShare 78 = .ok (.athrow, 1) := by decide +kernel
theorem dX2_givenShare_79 : decode cX2_givenShare 79 = .ok (.iload_n 1, 1) := by decide +kernel
theorem dX2_givenShare_80 : decode cX2_givenShare 80 = .ok (.i2f, 1) := by decide +kernel
theorem dX2_givenShare_81 : decode cX2_givenShare 81 = .ok (.iload_n 2, 1) := by decide +kernel
theorem dX2_givenShare_82 : decode cX2_givenShare 82 = .ok (.i2f, 1) := by decide +kernel
theorem dX2_givenShare_83 : decode cX2_givenShare 83 = .ok (.fdiv, 1) := by decide +kernel
theorem dX2_givenShare_84 : decode cX2_givenShare 84 = .ok (.freturn, 1) := by decide +kernel
theorem dX2_isSound_0 : decode cX2_isSound 0 = .ok (.aload_n 0, 1) := by decide +kernel
theorem dX2_isSound_1 : decode cX2_isSound 1 = .ok (.invokevirtual 163, 3) := by decide +kernel
theorem dX2_isSound_4 : decode cX2_isSound 4 = .ok (.aload_n 0, 1) := by decide +kernel
theorem dX2_isSound_5 : decode cX2_isSound 5 = .ok (.invokevirtual 230, 3) := by decide +kernel
theorem dX2_isSound_8 : decode cX2_isSound 8 = .ok (.if_icmp .ne 21, 3) := by decide +kernel
theorem dX2_isSound_11 : decode cX2_isSound 11 = .ok (.aload_n 0, 1) := by decide +kernel
theorem dX2_isSound_12 : decode cX2_isSound 12 = .ok (.invokevirtual 233, 3) := by decide +kernel
theorem dX2_isSound_15 : decode cX2_isSound 15 = .ok (.ifCond .eq 14, 3) := by decide +kernel
theorem dX2_isSound_18 : decode cX2_isSound 18 = .ok (.aload_n 0, 1) := by decide +kernel
theorem dX2_isSound_19 : decode cX2_isSound 19 = .ok (.invokevirtual 236, 3) := by decide +kernel
theorem dX2_isSound_22 : decode cX2_isSound 22 = .ok (.ifCond .eq 7, 3) := by decide +kernel
theorem dX2_isSound_25 : decode cX2_isSound 25 = .ok (.iconst 1, 1) := by decide +kernel
theorem dX2_isSound_26 : decode cX2_isSound 26 = .ok (.goto 4, 3) := by decide +kernel
theorem dX2_isSound_29 : decode cX2_isSound 29 = .ok (.iconst 0, 1) := by decide +kernel
theorem dX2_isSound_30 : decode cX2_isSound 30 = .ok (.ireturn, 1) := by decide +kernel
theorem dX2_existingFloor_0 : decode cX2_existingFloor 0 = .ok (.iload_n 1, 1) := by decide +kernel
theorem dX2_existingFloor_1 : decode cX2_existingFloor 1 = .ok (.ifCond .lt 14, 3) := by decide +kernel
theorem dX2_existingFloor_4 : decode cX2_existingFloor 4 = .ok (.iload_n 1, 1) := by decide +kernel
theorem dX2_existingFloor_5 : decode cX2_existingFloor 5 = .ok (.aload_n 0, 1) := by decide +kernel
theorem dX2_existingFloor_6 : decode cX2_existingFloor 6 = .ok (.getfield 12, 3) := by decide +kernel
theorem dX2_existingFloor_9 : decode cX2_existingFloor 9 = .ok (.invokevirtual 52, 3) := by decide +kernel
theorem dX2_existingFloor_12 : decode cX2_existingFloor 12 = .ok (.if_icmp .lt 13, 3) := by decide +kernel
theorem dX2_existingFloor_15 : decode cX2_existingFloor 15 = .ok (.new 124, 3) := by decide +kernel
theorem dX2_existingFloor_18 : decode cX2_existingFloor 18 = .ok (.dup, 1) := by decide +kernel
theorem dX2_existingFloor_19 : decode cX2_existingFloor 19 = .ok (.ldc 239, 2) := by decide +kernel
theorem dX2_existingFloor_21 : decode cX2_existingFloor 21 = .ok (.invokespecial 128, 3) := by decide +kernel
theorem dX2_existingFloor_24 : decode cX2_existingFloor 24 = .ok (.athrow, 1) := by decide +kernel
theorem dX2_existingFloor_25 : decode cX2_existingFloor 25 = .ok (.aload_n 0, 1) := by decide +kernel
theorem dX2_existingFloor_26 : decode cX2_existingFloor 26 = .ok (.getfield 12, 3) := by decide +kernel
theorem dX2_existingFloor_29 : decode cX2_existingFloor 29 = .ok (.iload_n 1, 1) := by decide +kernel
theorem dX2_existingFloor_30 : decode cX2_existingFloor 30 = .ok (.invokevirtual 129, 3) := by decide +kernel
theorem dX2_existingFloor_33 : decode cX2_existingFloor 33 = .ok (.checkcast 61, 3) := by decide +kernel
theorem dX2_existingFloor_36 : decode cX2_existingFloor 36 = .ok (.areturn, 1) := by decide +kernel
theorem dX2_existingPerson_0 : decode cX2_existingPerson 0 = .ok (.iload_n 1, 1) := by decide +kernel
theorem dX2_existingPerson_1 : decode cX2_existingPerson 1 = .ok (.ifCond .lt 14, 3) := by decide +kernel
theorem dX2_existingPerson_4 : decode cX2_existingPerson 4 = .ok (.iload_n 1, 1) := by decide +kernel
theorem dX2_existingPerson_5 : decode cX2_existingPerson 5 = .ok (.aload_n 0, 1) := by decide +kernel
theorem dX2_existingPerson_6 : decode cX2_existingPerson 6 = .ok (.getfield 18, 3) := by decide +kernel
theorem dX2_existingPerson_9 : decode cX2_existingPerson 9 = .ok (.invokevirtual 52, 3) := by decide +kernel
theorem dX2_existingPerson_12 : decode cX2_existingPerson 12 = .ok (.if_icmp .lt 13, 3) := by decide +kernel
theorem dX2_existingPerson_15 : decode cX2_existingPerson 15 = .ok (.new 112, 3) := by decide +kernel
theorem dX2_existingPerson_18 : decode cX2_existingPerson 18 = .ok (.dup, 1) := by decide +kernel
theorem dX2_existingPerson_19 : decode cX2_existingPerson 19 = .ok (.ldc 241, 2) := by decide +kernel
theorem dX2_existingPerson_21 : decode cX2_existingPerson 21 = .ok (.invokespecial 116, 3) := by decide +kernel
theorem dX2_existingPerson_24 : decode cX2_existingPerson 24 = .ok (.athrow, 1) := by decide +kernel
theorem dX2_existingPerson_25 : decode cX2_existingPerson 25 = .ok (.aload_n 0, 1) := by decide +kernel
theorem dX2_existingPerson_26 : decode cX2_existingPerson 26 = .ok (.getfield 18, 3) := by decide +kernel
theorem dX2_existingPerson_29 : decode cX2_existingPerson 29 = .ok (.iload_n 1, 1) := by decide +kernel
theorem dX2_existingPerson_30 : decode cX2_existingPerson 30 = .ok (.invokevirtual 129, 3) := by decide +kernel
theorem dX2_existingPerson_33 : decode cX2_existingPerson 33 = .ok (.checkcast 82, 3) := by decide +kernel
theorem dX2_existingPerson_36 : decode cX2_existingPerson 36 = .ok (.areturn, 1) := by decide +kernel
theorem dX2_checkCost_0 : decode cX2_checkCost 0 = .ok (.iload_n 0, 1) := by decide +kernel
theorem dX2_checkCost_1 : decode cX2_checkCost 1 = .ok (.ifCond .lt 9, 3) := by decide +kernel
theorem dX2_checkCost_4 : decode cX2_checkCost 4 = .ok (.iload_n 0, 1) := by decide +kernel
theorem dX2_checkCost_5 : decode cX2_checkCost 5 = .ok (.bipush 99, 2) := by decide +kernel
theorem dX2_checkCost_7 : decode cX2_checkCost 7 = .ok (.if_icmp .le 13, 3) := by decide +kernel
theorem dX2_checkCost_10 : decode cX2_checkCost 10 = .ok (.new 41, 3) := by decide +kernel
theorem dX2_checkCost_13 : decode cX2_checkCost 13 = .ok (.dup, 1) := by decide +kernel
theorem dX2_checkCost_14 : decode cX2_checkCost 14 = .ok (.ldc 243, 2) := by decide +kernel
theorem dX2_checkCost_16 : decode cX2_checkCost 16 = .ok (.invokespecial 45, 3) := by decide +kernel
theorem dX2_checkCost_19 : decode cX2_checkCost 19 = .ok (.athrow, 1) := by decide +kernel
theorem dX2_checkCost_20 : decode cX2_checkCost 20 = .ok (.return_, 1) := by decide +kernel
theorem dX2_checkTeam_0 : decode cX2_checkTeam 0 = .ok (.iload_n 0, 1) := by decide +kernel
theorem dX2_checkTeam_1 : decode cX2_checkTeam 1 = .ok (.ifCond .lt 8, 3) := by decide +kernel
theorem dX2_checkTeam_4 : decode cX2_checkTeam 4 = .ok (.iload_n 0, 1) := by decide +kernel
theorem dX2_checkTeam_5 : decode cX2_checkTeam 5 = .ok (.iconst 4, 1) := by decide +kernel
theorem dX2_checkTeam_6 : decode cX2_checkTeam 6 = .ok (.if_icmp .lt 13, 3) := by decide +kernel
theorem dX2_checkTeam_9 : decode cX2_checkTeam 9 = .ok (.new 41, 3) := by decide +kernel
theorem dX2_checkTeam_12 : decode cX2_checkTeam 12 = .ok (.dup, 1) := by decide +kernel
theorem dX2_checkTeam_13 : decode cX2_checkTeam 13 = .ok (.ldc 245, 2) := by decide +kernel
theorem dX2_checkTeam_15 : decode cX2_checkTeam 15 = .ok (.invokespecial 45, 3) := by decide +kernel
theorem dX2_checkTeam_18 : decode cX2_checkTeam 18 = .ok (.athrow, 1) := by decide +kernel
theorem dX2_checkTeam_19 : decode cX2_checkTeam 19 = .ok (.return_, 1) := by decide +kernel
theorem dX2_removeBooking_0 : decode cX2_removeBooking 0 = .ok (.iconst 0, 1) := by decide +kernel
theorem dX2_removeBooking_1 : decode cX2_removeBooking 1 = .ok (.istore_n 2, 1) := by decide +kernel
theorem dX2_removeBooking_2 : decode cX2_removeBooking 2 = .ok (.iload_n 2, 1) := by decide +kernel
theorem dX2_removeBooking_3 : decode cX2_removeBooking 3 = .ok (.aload_n 0, 1) := by decide +kernel
theorem dX2_removeBooking_4 : decode cX2_removeBooking 4 = .ok (.getfield 21, 3) := by decide +kernel
theorem dX2_removeBooking_7 : decode cX2_removeBooking 7 = .ok (.invokevirtual 52, 3) := by decide +kernel
theorem dX2_removeBooking_10 : decode cX2_removeBooking 10 = .ok (.if_icmp .ge 31, 3) := by decide +kernel
theorem dX2_removeBooking_13 : decode cX2_removeBooking 13 = .ok (.aload_n 0, 1) := by decide +kernel
theorem dX2_removeBooking_14 : decode cX2_removeBooking 14 = .ok (.getfield 21, 3) := by decide +kernel
theorem dX2_removeBooking_17 : decode cX2_removeBooking 17 = .ok (.iload_n 2, 1) := by decide +kernel
theorem dX2_removeBooking_18 : decode cX2_removeBooking 18 = .ok (.invokevirtual 129, 3) := by decide +kernel
theorem dX2_removeBooking_21 : decode cX2_removeBooking 21 = .ok (.aload_n 1, 1) := by decide +kernel
theorem dX2_removeBooking_22 : decode cX2_removeBooking 22 = .ok (.if_acmp .ne 13, 3) := by decide +kernel
theorem dX2_removeBooking_25 : decode cX2_removeBooking 25 = .ok (.aload_n 0, 1) := by decide +kernel
theorem dX2_removeBooking_26 : decode cX2_removeBooking 26 = .ok (.getfield 21, 3) := by decide +kernel
theorem dX2_removeBooking_29 : decode cX2_removeBooking 29 = .ok (.iload_n 2, 1) := by decide +kernel
theorem dX2_removeBooking_30 : decode cX2_removeBooking 30 = .ok (.invokevirtual 247, 3) := by decide +kernel
theorem dX2_removeBooking_33 : decode cX2_removeBooking 33 = .ok (.pop, 1) := by decide +kernel
theorem dX2_removeBooking_34 : decode cX2_removeBooking 34 = .ok (.return_, 1) := by decide +kernel
theorem dX2_removeBooking_35 : decode cX2_removeBooking 35 = .ok (.iinc 2 1, 3) := by decide +kernel
theorem dX2_removeBooking_38 : decode cX2_removeBooking 38 = .ok (.goto (-36), 3) := by decide +kernel
theorem dX2_removeBooking_41 : decode cX2_removeBooking 41 = .ok (.return_, 1) := by decide +kernel
theorem dX2_allFloors_0 : decode cX2_allFloors 0 = .ok (.iconst 1, 1) := by decide +kernel
theorem dX2_allFloors_1 : decode cX2_allFloors 1 = .ok (.aload_n 0, 1) := by decide +kernel
theorem dX2_allFloors_2 : decode cX2_allFloors 2 = .ok (.getfield 12, 3) := by decide +kernel
theorem dX2_allFloors_5 : decode cX2_allFloors 5 = .ok (.invokevirtual 52, 3) := by decide +kernel
theorem dX2_allFloors_8 : decode cX2_allFloors 8 = .ok (.ishl, 1) := by decide +kernel
theorem dX2_allFloors_9 : decode cX2_allFloors 9 = .ok (.iconst 1, 1) := by decide +kernel
theorem dX2_allFloors_10 : decode cX2_allFloors 10 = .ok (.isub, 1) := by decide +kernel
theorem dX2_allFloors_11 : decode cX2_allFloors 11 = .ok (.ireturn, 1) := by decide +kernel
theorem dX2_seatsOfSet_0 : decode cX2_seatsOfSet 0 = .ok (.iconst 0, 1) := by decide +kernel
theorem dX2_seatsOfSet_1 : decode cX2_seatsOfSet 1 = .ok (.istore_n 2, 1) := by decide +kernel
theorem dX2_seatsOfSet_2 : decode cX2_seatsOfSet 2 = .ok (.iconst 0, 1) := by decide +kernel
theorem dX2_seatsOfSet_3 : decode cX2_seatsOfSet 3 = .ok (.istore_n 3, 1) := by decide +kernel
theorem dX2_seatsOfSet_4 : decode cX2_seatsOfSet 4 = .ok (.iload_n 3, 1) := by decide +kernel
theorem dX2_seatsOfSet_5 : decode cX2_seatsOfSet 5 = .ok (.aload_n 0, 1) := by decide +kernel
theorem dX2_seatsOfSet_6 : decode cX2_seatsOfSet 6 = .ok (.getfield 12, 3) := by decide +kernel
theorem dX2_seatsOfSet_9 : decode cX2_seatsOfSet 9 = .ok (.invokevirtual 52, 3) := by decide +kernel
theorem dX2_seatsOfSet_12 : decode cX2_seatsOfSet 12 = .ok (.if_icmp .ge 43, 3) := by decide +kernel
theorem dX2_seatsOfSet_15 : decode cX2_seatsOfSet 15 = .ok (.aload_n 0, 1) := by decide +kernel
theorem dX2_seatsOfSet_16 : decode cX2_seatsOfSet 16 = .ok (.getfield 12, 3) := by decide +kernel
theorem dX2_seatsOfSet_19 : decode cX2_seatsOfSet 19 = .ok (.iload_n 3, 1) := by decide +kernel
theorem dX2_seatsOfSet_20 : decode cX2_seatsOfSet 20 = .ok (.invokevirtual 129, 3) := by decide +kernel
theorem dX2_seatsOfSet_23 : decode cX2_seatsOfSet 23 = .ok (.checkcast 61, 3) := by decide +kernel
theorem dX2_seatsOfSet_26 : decode cX2_seatsOfSet 26 = .ok (.astore 4, 2) := by decide +kernel
theorem dX2_seatsOfSet_28 : decode cX2_seatsOfSet 28 = .ok (.iload_n 2, 1) := by decide +kernel
theorem dX2_seatsOfSet_29 : decode cX2_seatsOfSet 29 = .ok (.aload 4, 2) := by decide +kernel
theorem dX2_seatsOfSet_31 : decode cX2_seatsOfSet 31 = .ok (.iload_n 1, 1) := by decide +kernel
theorem dX2_seatsOfSet_32 : decode cX2_seatsOfSet 32 = .ok (.invokevirtual 250, 3) := by decide +kernel
theorem dX2_seatsOfSet_35 : decode cX2_seatsOfSet 35 = .ok (.ifCond .eq 11, 3) := by decide +kernel
theorem dX2_seatsOfSet_38 : decode cX2_seatsOfSet 38 = .ok (.aload 4, 2) := by decide +kernel
theorem dX2_seatsOfSet_40 : decode cX2_seatsOfSet 40 = .ok (.getfield 225, 3) := by decide +kernel
theorem dX2_seatsOfSet_43 : decode cX2_seatsOfSet 43 = .ok (.goto 4, 3) := by decide +kernel
theorem dX2_seatsOfSet_46 : decode cX2_seatsOfSet 46 = .ok (.iconst 0, 1) := by decide +kernel
theorem dX2_seatsOfSet_47 : decode cX2_seatsOfSet 47 = .ok (.iadd, 1) := by decide +kernel
theorem dX2_seatsOfSet_48 : decode cX2_seatsOfSet 48 = .ok (.istore_n 2, 1) := by decide +kernel
theorem dX2_seatsOfSet_49 : decode cX2_seatsOfSet 49 = .ok (.iinc 3 1, 3) := by decide +kernel
theorem dX2_seatsOfSet_52 : decode cX2_seatsOfSet 52 = .ok (.goto (-48), 3) := by decide +kernel
theorem dX2_seatsOfSet_55 : decode cX2_seatsOfSet 55 = .ok (.iload_n 2, 1) := by decide +kernel
theorem dX2_seatsOfSet_56 : decode cX2_seatsOfSet 56 = .ok (.ireturn, 1) := by decide +kernel
theorem dX2_fits_0 : decode cX2_fits 0 = .ok (.aload_n 0, 1) := by decide +kernel
theorem dX2_fits_1 : decode cX2_fits 1 = .ok (.iload_n 1, 1) := by decide +kernel
theorem dX2_fits_2 : decode cX2_fits 2 = .ok (.invokevirtual 103, 3) := by decide +kernel
theorem dX2_fits_5 : decode cX2_fits 5 = .ok (.aload_n 0, 1) := by decide +kernel
theorem dX2_fits_6 : decode cX2_fits 6 = .ok (.getfield 21, 3) := by decide +kernel
theorem dX2_fits_9 : decode cX2_fits 9 = .ok (.invokevirtual 52, 3) := by decide +kernel
theorem dX2_fits_12 : decode cX2_fits 12 = .ok (.if_icmp .lt 7, 3) := by decide +kernel
theorem dX2_fits_15 : decode cX2_fits 15 = .ok (.iconst 1, 1) := by decide +kernel
theorem dX2_fits_16 : decode cX2_fits 16 = .ok (.goto 4, 3) := by decide +kernel
theorem dX2_fits_19 : decode cX2_fits 19 = .ok (.iconst 0, 1) := by decide +kernel
theorem dX2_fits_20 : decode cX2_fits 20 = .ok (.ireturn, 1) := by decide +kernel
theorem dX2_lossOfSet_0 : decode cX2_lossOfSet 0 = .ok (.iconst 0, 1) := by decide +kernel
theorem dX2_lossOfSet_1 : decode cX2_lossOfSet 1 = .ok (.istore_n 2, 1) := by decide +kernel
theorem dX2_lossOfSet_2 : decode cX2_lossOfSet 2 = .ok (.iconst 0, 1) := by decide +kernel
theorem dX2_lossOfSet_3 : decode cX2_lossOfSet 3 = .ok (.istore_n 3, 1) := by decide +kernel
theorem dX2_lossOfSet_4 : decode cX2_lossOfSet 4 = .ok (.iload_n 3, 1) := by decide +kernel
theorem dX2_lossOfSet_5 : decode cX2_lossOfSet 5 = .ok (.aload_n 0, 1) := by decide +kernel
theorem dX2_lossOfSet_6 : decode cX2_lossOfSet 6 = .ok (.getfield 12, 3) := by decide +kernel
theorem dX2_lossOfSet_9 : decode cX2_lossOfSet 9 = .ok (.invokevirtual 52, 3) := by decide +kernel
theorem dX2_lossOfSet_12 : decode cX2_lossOfSet 12 = .ok (.if_icmp .ge 43, 3) := by decide +kernel
theorem dX2_lossOfSet_15 : decode cX2_lossOfSet 15 = .ok (.aload_n 0, 1) := by decide +kernel
theorem dX2_lossOfSet_16 : decode cX2_lossOfSet 16 = .ok (.getfield 12, 3) := by decide +kernel
theorem dX2_lossOfSet_19 : decode cX2_lossOfSet 19 = .ok (.iload_n 3, 1) := by decide +kernel
theorem dX2_lossOfSet_20 : decode cX2_lossOfSet 20 = .ok (.invokevirtual 129, 3) := by decide +kernel
theorem dX2_lossOfSet_23 : decode cX2_lossOfSet 23 = .ok (.checkcast 61, 3) := by decide +kernel
theorem dX2_lossOfSet_26 : decode cX2_lossOfSet 26 = .ok (.astore 4, 2) := by decide +kernel
theorem dX2_lossOfSet_28 : decode cX2_lossOfSet 28 = .ok (.iload_n 2, 1) := by decide +kernel
theorem dX2_lossOfSet_29 : decode cX2_lossOfSet 29 = .ok (.aload 4, 2) := by decide +kernel
theorem dX2_lossOfSet_31 : decode cX2_lossOfSet 31 = .ok (.iload_n 1, 1) := by decide +kernel
theorem dX2_lossOfSet_32 : decode cX2_lossOfSet 32 = .ok (.invokevirtual 250, 3) := by decide +kernel
theorem dX2_lossOfSet_35 : decode cX2_lossOfSet 35 = .ok (.ifCond .eq 11, 3) := by decide +kernel
theorem dX2_lossOfSet_38 : decode cX2_lossOfSet 38 = .ok (.aload 4, 2) := by decide +kernel
theorem dX2_lossOfSet_40 : decode cX2_lossOfSet 40 = .ok (.getfield 74, 3) := by decide +kernel
theorem dX2_lossOfSet_43 : decode cX2_lossOfSet 43 = .ok (.goto 4, 3) := by decide +kernel
theorem dX2_lossOfSet_46 : decode cX2_lossOfSet 46 = .ok (.iconst 0, 1) := by decide +kernel
theorem dX2_lossOfSet_47 : decode cX2_lossOfSet 47 = .ok (.iadd, 1) := by decide +kernel
theorem dX2_lossOfSet_48 : decode cX2_lossOfSet 48 = .ok (.istore_n 2, 1) := by decide +kernel
theorem dX2_lossOfSet_49 : decode cX2_lossOfSet 49 = .ok (.iinc 3 1, 3) := by decide +kernel
theorem dX2_lossOfSet_52 : decode cX2_lossOfSet 52 = .ok (.goto (-48), 3) := by decide +kernel
theorem dX2_lossOfSet_55 : decode cX2_lossOfSet 55 = .ok (.iconst 0, 1) := by decide +kernel
theorem dX2_lossOfSet_56 : decode cX2_lossOfSet 56 = .ok (.istore_n 3, 1) := by decide +kernel
theorem dX2_lossOfSet_57 : decode cX2_lossOfSet 57 = .ok (.iload_n 3, 1) := by decide +kernel
theorem dX2_lossOfSet_58 : decode cX2_lossOfSet 58 = .ok (.aload_n 0, 1) := by decide +kernel
theorem dX2_lossOfSet_59 : decode cX2_lossOfSet 59 = .ok (.getfield 21, 3) := by decide +kernel
theorem dX2_lossOfSet_62 : decode cX2_lossOfSet 62 = .ok (.invokevirtual 52, 3) := by decide +kernel
theorem dX2_lossOfSet_65 : decode cX2_lossOfSet 65 = .ok (.if_icmp .ge 46, 3) := by decide +kernel
theorem dX2_lossOfSet_68 : decode cX2_lossOfSet 68 = .ok (.aload_n 0, 1) := by decide +kernel
theorem dX2_lossOfSet_69 : decode cX2_lossOfSet 69 = .ok (.getfield 21, 3) := by decide +kernel
theorem dX2_lossOfSet_72 : decode cX2_lossOfSet 72 = .ok (.iload_n 3, 1) := by decide +kernel
theorem dX2_lossOfSet_73 : decode cX2_lossOfSet 73 = .ok (.invokevirtual 129, 3) := by decide +kernel
theorem dX2_lossOfSet_76 : decode cX2_lossOfSet 76 = .ok (.checkcast 82, 3) := by decide +kernel
theorem dX2_lossOfSet_79 : decode cX2_lossOfSet 79 = .ok (.getfield 94, 3) := by decide +kernel
theorem dX2_lossOfSet_82 : decode cX2_lossOfSet 82 = .ok (.astore 4, 2) := by decide +kernel
theorem dX2_lossOfSet_84 : decode cX2_lossOfSet 84 = .ok (.iload_n 2, 1) := by decide +kernel
theorem dX2_lossOfSet_85 : decode cX2_lossOfSet 85 = .ok (.aload 4, 2) := by decide +kernel
theorem dX2_lossOfSet_87 : decode cX2_lossOfSet 87 = .ok (.ifnonnull 7, 3) := by decide +kernel
theorem dX2_lossOfSet_90 : decode cX2_lossOfSet 90 = .ok (.iconst 0, 1) := by decide +kernel
theorem dX2_lossOfSet_91 : decode cX2_lossOfSet 91 = .ok (.goto 12, 3) := by decide +kernel
theorem dX2_lossOfSet_94 : decode cX2_lossOfSet 94 = .ok (.iconst 3, 1) := by decide +kernel
theorem dX2_lossOfSet_95 : decode cX2_lossOfSet 95 = .ok (.aload_n 0, 1) := by decide +kernel
theorem dX2_lossOfSet_96 : decode cX2_lossOfSet 96 = .ok (.aload 4, 2) := by decide +kernel
theorem dX2_lossOfSet_98 : decode cX2_lossOfSet 98 = .ok (.iload_n 1, 1) := by decide +kernel
theorem dX2_lossOfSet_99 : decode cX2_lossOfSet 99 = .ok (.invokevirtual 253, 3) := by decide +kernel
theorem dX2_lossOfSet_102 : decode cX2_lossOfSet 102 = .ok (.imul, 1) := by decide +kernel
theorem dX2_lossOfSet_103 : decode cX2_lossOfSet 103 = .ok (.iadd, 1) := by decide +kernel
theorem dX2_lossOfSet_104 : decode cX2_lossOfSet 104 = .ok (.istore_n 2, 1) := by decide +kernel
theorem dX2_lossOfSet_105 : decode cX2_lossOfSet 105 = .ok (.iinc 3 1, 3) := by decide +kernel
theorem dX2_lossOfSet_108 : decode cX2_lossOfSet 108 = .ok (.goto (-51), 3) := by decide +kernel
theorem dX2_lossOfSet_111 : decode cX2_lossOfSet 111 = .ok (.iload_n 2, 1) := by decide +kernel
theorem dX2_lossOfSet_112 : decode cX2_lossOfSet 112 = .ok (.ireturn, 1) := by decide +kernel
theorem dX2_distanceToSet_0 : decode cX2_distanceToSet 0 = .ok (.bipush 100, 2) := by decide +kernel
theorem dX2_distanceToSet_2 : decode cX2_distanceToSet 2 = .ok (.istore_n 3, 1) := by decide +kernel
theorem dX2_distanceToSet_3 : decode cX2_distanceToSet 3 = .ok (.iconst 0, 1) := by decide +kernel
theorem dX2_distanceToSet_4 : decode cX2_distanceToSet 4 = .ok (.istore 4, 2) := by decide +kernel
theorem dX2_distanceToSet_6 : decode cX2_distanceToSet 6 = .ok (.iload 4, 2) := by decide +kernel
theorem dX2_distanceToSet_8 : decode cX2_distanceToSet 8 = .ok (.aload_n 0, 1) := by decide +kernel
theorem dX2_distanceToSet_9 : decode cX2_distanceToSet 9 = .ok (.getfield 12, 3) := by decide +kernel
theorem dX2_distanceToSet_12 : decode cX2_distanceToSet 12 = .ok (.invokevirtual 52, 3) := by decide +kernel
theorem dX2_distanceToSet_15 : decode cX2_distanceToSet 15 = .ok (.if_icmp .ge 43, 3) := by decide +kernel
theorem dX2_distanceToSet_18 : decode cX2_distanceToSet 18 = .ok (.aload_n 0, 1) := by decide +kernel
theorem dX2_distanceToSet_19 : decode cX2_distanceToSet 19 = .ok (.getfield 12, 3) := by decide +kernel
theorem dX2_distanceToSet_22 : decode cX2_distanceToSet 22 = .ok (.iload 4, 2) := by decide +kernel
theorem dX2_distanceToSet_24 : decode cX2_distanceToSet 24 = .ok (.invokevirtual 129, 3) := by decide +kernel
theorem dX2_distanceToSet_27 : decode cX2_distanceToSet 27 = .ok (.checkcast 61, 3) := by decide +kernel
theorem dX2_distanceToSet_30 : decode cX2_distanceToSet 30 = .ok (.astore 5, 2) := by decide +kernel
theorem dX2_distanceToSet_32 : decode cX2_distanceToSet 32 = .ok (.aload 5, 2) := by decide +kernel
theorem dX2_distanceToSet_34 : decode cX2_distanceToSet 34 = .ok (.iload_n 2, 1) := by decide +kernel
theorem dX2_distanceToSet_35 : decode cX2_distanceToSet 35 = .ok (.invokevirtual 250, 3) := by decide +kernel
theorem dX2_distanceToSet_38 : decode cX2_distanceToSet 38 = .ok (.ifCond .eq 14, 3) := by decide +kernel
theorem dX2_distanceToSet_41 : decode cX2_distanceToSet 41 = .ok (.iload_n 3, 1) := by decide +kernel
theorem dX2_distanceToSet_42 : decode cX2_distanceToSet 42 = .ok (.aload_n 1, 1) := by decide +kernel
theorem dX2_distanceToSet_43 : decode cX2_distanceToSet 43 = .ok (.aload 5, 2) := by decide +kernel
theorem dX2_distanceToSet_45 : decode cX2_distanceToSet 45 = .ok (.invokevirtual 257, 3) := by decide +kernel
theorem dX2_distanceToSet_48 : decode cX2_distanceToSet 48 = .ok (.invokestatic 260, 3) := by decide +kernel
theorem dX2_distanceToSet_51 : decode cX2_distanceToSet 51 = .ok (.istore_n 3, 1) := by decide +kernel
theorem dX2_distanceToSet_52 : decode cX2_distanceToSet 52 = .ok (.iinc 4 1, 3) := by decide +kernel
theorem dX2_distanceToSet_55 : decode cX2_distanceToSet 55 = .ok (.goto (-49), 3) := by decide +kernel
theorem dX2_distanceToSet_58 : decode cX2_distanceToSet 58 = .ok (.iload_n 3, 1) := by decide +kernel
theorem dX2_distanceToSet_59 : decode cX2_distanceToSet 59 = .ok (.ireturn, 1) := by decide +kernel
theorem dX2_findPlanKey_0 : decode cX2_findPlanKey 0 = .ok (.aload_n 0, 1) := by decide +kernel
theorem dX2_findPlanKey_1 : decode cX2_findPlanKey 1 = .ok (.getfield 21, 3) := by decide +kernel
theorem dX2_findPlanKey_4 : decode cX2_findPlanKey 4 = .ok (.invokevirtual 52, 3) := by decide +kernel
theorem dX2_findPlanKey_7 : decode cX2_findPlanKey 7 = .ok (.istore_n 1, 1) := by decide +kernel
theorem dX2_findPlanKey_8 : decode cX2_findPlanKey 8 = .ok (.iload_n 1, 1) := by decide +kernel
theorem dX2_findPlanKey_9 : decode cX2_findPlanKey 9 = .ok (.ifCond .ne 5, 3) := by decide +kernel
theorem dX2_findPlanKey_12 : decode cX2_findPlanKey 12 = .ok (.iconst 0, 1) := by decide +kernel
theorem dX2_findPlanKey_13 : decode cX2_findPlanKey 13 = .ok (.ireturn, 1) := by decide +kernel
theorem dX2_findPlanKey_14 : decode cX2_findPlanKey 14 = .ok (.ldc 137, 2) := by decide +kernel
theorem dX2_findPlanKey_16 : decode cX2_findPlanKey 16 = .ok (.istore_n 2, 1) := by decide +kernel
theorem dX2_findPlanKey_17 : decode cX2_findPlanKey 17 = .ok (.iconst 0, 1) := by decide +kernel
theorem dX2_findPlanKey_18 : decode cX2_findPlanKey 18 = .ok (.istore_n 3, 1) := by decide +kernel
theorem dX2_findPlanKey_19 : decode cX2_findPlanKey 19 = .ok (.iload_n 3, 1) := by decide +kernel
theorem dX2_findPlanKey_20 : decode cX2_findPlanKey 20 = .ok (.aload_n 0, 1) := by decide +kernel
theorem dX2_findPlanKey_21 : decode cX2_findPlanKey 21 = .ok (.getfield 12, 3) := by decide +kernel
theorem dX2_findPlanKey_24 : decode cX2_findPlanKey 24 = .ok (.invokevirtual 52, 3) := by decide +kernel
theorem dX2_findPlanKey_27 : decode cX2_findPlanKey 27 = .ok (.if_icmp .ge 66, 3) := by decide +kernel
theorem dX2_findPlanKey_30 : decode cX2_findPlanKey 30 = .ok (.aload_n 0, 1) := by decide +kernel
theorem dX2_findPlanKey_31 : decode cX2_findPlanKey 31 = .ok (.getfield 12, 3) := by decide +kernel
theorem dX2_findPlanKey_34 : decode cX2_findPlanKey 34 = .ok (.iload_n 3, 1) := by decide +kernel
theorem dX2_findPlanKey_35 : decode cX2_findPlanKey 35 = .ok (.invokevirtual 129, 3) := by decide +kernel
theorem dX2_findPlanKey_38 : decode cX2_findPlanKey 38 = .ok (.checkcast 61, 3) := by decide +kernel
theorem dX2_findPlanKey_41 : decode cX2_findPlanKey 41 = .ok (.astore 4, 2) := by decide +kernel
theorem dX2_findPlanKey_43 : decode cX2_findPlanKey 43 = .ok (.aload_n 0, 1) := by decide +kernel
theorem dX2_findPlanKey_44 : decode cX2_findPlanKey 44 = .ok (.aload 4, 2) := by decide +kernel
theorem dX2_findPlanKey_46 : decode cX2_findPlanKey 46 = .ok (.iload_n 1, 1) := by decide +kernel
theorem dX2_findPlanKey_47 : decode cX2_findPlanKey 47 = .ok (.invokevirtual 266, 3) := by decide +kernel
theorem dX2_findPlanKey_50 : decode cX2_findPlanKey 50 = .ok (.aload 4, 2) := by decide +kernel
theorem dX2_findPlanKey_52 : decode cX2_findPlanKey 52 = .ok (.iload_n 1, 1) := by decide +kernel
theorem dX2_findPlanKey_53 : decode cX2_findPlanKey 53 = .ok (.invokevirtual 270, 3) := by decide +kernel
theorem dX2_findPlanKey_56 : decode cX2_findPlanKey 56 = .ok (.istore 5, 2) := by decide +kernel
theorem dX2_findPlanKey_58 : decode cX2_findPlanKey 58 = .ok (.iload 5, 2) := by decide +kernel
theorem dX2_findPlanKey_60 : decode cX2_findPlanKey 60 = .ok (.ldc 137, 2) := by decide +kernel
theorem dX2_findPlanKey_62 : decode cX2_findPlanKey 62 = .ok (.if_icmp .eq 25, 3) := by decide +kernel
theorem dX2_findPlanKey_65 : decode cX2_findPlanKey 65 = .ok (.iload_n 2, 1) := by decide +kernel
theorem dX2_findPlanKey_66 : decode cX2_findPlanKey 66 = .ok (.iload 5, 2) := by decide +kernel
theorem dX2_findPlanKey_68 : decode cX2_findPlanKey 68 = .ok (.bipush 64, 2) := by decide +kernel
theorem dX2_findPlanKey_70 : decode cX2_findPlanKey 70 = .ok (.aload_n 0, 1) := by decide +kernel
theorem dX2_findPlanKey_71 : decode cX2_findPlanKey 71 = .ok (.aload 4, 2) := by decide +kernel
theorem dX2_findPlanKey_73 : decode cX2_findPlanKey 73 = .ok (.getfield 121, 3) := by decide +kernel
theorem dX2_findPlanKey_76 : decode cX2_findPlanKey 76 = .ok (.bipush 100, 2) := by decide +kernel
theorem dX2_findPlanKey_78 : decode cX2_findPlanKey 78 = .ok (.invokevirtual 273, 3) := by decide +kernel
theorem dX2_findPlanKey_81 : decode cX2_findPlanKey 81 = .ok (.imul, 1) := by decide +kernel
theorem dX2_findPlanKey_82 : decode cX2_findPlanKey 82 = .ok (.iadd, 1) := by decide +kernel
theorem dX2_findPlanKey_83 : decode cX2_findPlanKey 83 = .ok (.invokestatic 260, 3) := by decide +kernel
theorem dX2_findPlanKey_86 : decode cX2_findPlanKey 86 = .ok (.istore_n 2, 1) := by decide +kernel
theorem dX2_findPlanKey_87 : decode cX2_findPlanKey 87 = .ok (.iinc 3 1, 3) := by decide +kernel
theorem dX2_findPlanKey_90 : decode cX2_findPlanKey 90 = .ok (.goto (-71), 3) := by decide +kernel
theorem dX2_findPlanKey_93 : decode cX2_findPlanKey 93 = .ok (.iload_n 2, 1) := by decide +kernel
theorem dX2_findPlanKey_94 : decode cX2_findPlanKey 94 = .ok (.ldc 137, 2) := by decide +kernel
theorem dX2_findPlanKey_96 : decode cX2_findPlanKey 96 = .ok (.if_icmp .ne 7, 3) := by decide +kernel
theorem dX2_findPlanKey_99 : decode cX2_findPlanKey 99 = .ok (.iconst 0, 1) := by decide +kernel
theorem dX2_findPlanKey_100 : decode cX2_findPlanKey 100 = .ok (.goto 4, 3) := by decide +kernel
theorem dX2_findPlanKey_103 : decode cX2_findPlanKey 103 = .ok (.iload_n 2, 1) := by decide +kernel
theorem dX2_findPlanKey_104 : decode cX2_findPlanKey 104 = .ok (.ireturn, 1) := by decide +kernel
theorem dX2_findKeysUpTo_0 : decode cX2_findKeysUpTo 0 = .ok (.aload_n 1, 1) := by decide +kernel
theorem dX2_findKeysUpTo_1 : decode cX2_findKeysUpTo 1 = .ok (.invokevirtual 276, 3) := by decide +kernel
theorem dX2_findKeysUpTo_4 : decode cX2_findKeysUpTo 4 = .ok (.aload_n 1, 1) := by decide +kernel
theorem dX2_findKeysUpTo_5 : decode cX2_findKeysUpTo 5 = .ok (.getfield 74, 3) := by decide +kernel
theorem dX2_findKeysUpTo_8 : decode cX2_findKeysUpTo 8 = .ok (.aload_n 0, 1) := by decide +kernel
theorem dX2_findKeysUpTo_9 : decode cX2_findKeysUpTo 9 = .ok (.bipush (-100), 2) := by decide +kernel
theorem dX2_findKeysUpTo_11 : decode cX2_findKeysUpTo 11 = .ok (.aload_n 1, 1) := by decide +kernel
theorem dX2_findKeysUpTo_12 : decode cX2_findKeysUpTo 12 = .ok (.getfield 121, 3) := by decide +kernel
theorem dX2_findKeysUpTo_15 : decode cX2_findKeysUpTo 15 = .ok (.invokevirtual 273, 3) := by decide +kernel
theorem dX2_findKeysUpTo_18 : decode cX2_findKeysUpTo 18 = .ok (.iadd, 1) := by decide +kernel
theorem dX2_findKeysUpTo_19 : decode cX2_findKeysUpTo 19 = .ok (.istore_n 3, 1) := by decide +kernel
theorem dX2_findKeysUpTo_20 : decode cX2_findKeysUpTo 20 = .ok (.aload_n 1, 1) := by decide +kernel
theorem dX2_findKeysUpTo_21 : decode cX2_findKeysUpTo 21 = .ok (.aload_n 1, 1) := by decide +kernel
theorem dX2_findKeysUpTo_22 : decode cX2_findKeysUpTo 22 = .ok (.getfield 225, 3) := by decide +kernel
theorem dX2_findKeysUpTo_25 : decode cX2_findKeysUpTo 25 = .ok (.iload_n 2, 1) := by decide +kernel
theorem dX2_findKeysUpTo_26 : decode cX2_findKeysUpTo 26 = .ok (.invokestatic 260, 3) := by decide +kernel
theorem dX2_findKeysUpTo_29 : decode cX2_findKeysUpTo 29 = .ok (.bipush 64, 2) := by decide +kernel
theorem dX2_findKeysUpTo_31 : decode cX2_findKeysUpTo 31 = .ok (.iload_n 3, 1) := by decide +kernel
theorem dX2_findKeysUpTo_32 : decode cX2_findKeysUpTo 32 = .ok (.imul, 1) := by decide +kernel
theorem dX2_findKeysUpTo_33 : decode cX2_findKeysUpTo 33 = .ok (.aload_n 1, 1) := by decide +kernel
theorem dX2_findKeysUpTo_34 : decode cX2_findKeysUpTo 34 = .ok (.invokevirtual 279, 3) := by decide +kernel
theorem dX2_findKeysUpTo_37 : decode cX2_findKeysUpTo 37 = .ok (.iadd, 1) := by decide +kernel
theorem dX2_findKeysUpTo_38 : decode cX2_findKeysUpTo 38 = .ok (.invokevirtual 282, 3) := by decide +kernel
theorem dX2_findKeysUpTo_41 : decode cX2_findKeysUpTo 41 = .ok (.iconst 0, 1) := by decide +kernel
theorem dX2_findKeysUpTo_42 : decode cX2_findKeysUpTo 42 = .ok (.istore 4, 2) := by decide +kernel
theorem dX2_findKeysUpTo_44 : decode cX2_findKeysUpTo 44 = .ok (.iload 4, 2) := by decide +kernel
theorem dX2_findKeysUpTo_46 : decode cX2_findKeysUpTo 46 = .ok (.aload_n 1, 1) := by decide +kernel
theorem dX2_findKeysUpTo_47 : decode cX2_findKeysUpTo 47 = .ok (.getfield 121, 3) := by decide +kernel
theorem dX2_findKeysUpTo_50 : decode cX2_findKeysUpTo 50 = .ok (.if_icmp .ge 39, 3) := by decide +kernel
theorem dX2_findKeysUpTo_53 : decode cX2_findKeysUpTo 53 = .ok (.iload 4, 2) := by decide +kernel
theorem dX2_findKeysUpTo_55 : decode cX2_findKeysUpTo 55 = .ok (.aload_n 0, 1) := by decide +kernel
theorem dX2_findKeysUpTo_56 : decode cX2_findKeysUpTo 56 = .ok (.getfield 12, 3) := by decide +kernel
theorem dX2_findKeysUpTo_59 : decode cX2_findKeysUpTo 59 = .ok (.invokevirtual 52, 3) := by decide +kernel
theorem dX2_findKeysUpTo_62 : decode cX2_findKeysUpTo 62 = .ok (.if_icmp .ge 27, 3) := by decide +kernel
theorem dX2_findKeysUpTo_65 : decode cX2_findKeysUpTo 65 = .ok (.aload_n 0, 1) := by decide +kernel
theorem dX2_findKeysUpTo_66 : decode cX2_findKeysUpTo 66 = .ok (.aload_n 0, 1) := by decide +kernel
theorem dX2_findKeysUpTo_67 : decode cX2_findKeysUpTo 67 = .ok (.getfield 12, 3) := by decide +kernel
theorem dX2_findKeysUpTo_70 : decode cX2_findKeysUpTo 70 = .ok (.iload 4, 2) := by decide +kernel
theorem dX2_findKeysUpTo_72 : decode cX2_findKeysUpTo 72 = .ok (.invokevirtual 129, 3) := by decide +kernel
theorem dX2_findKeysUpTo_75 : decode cX2_findKeysUpTo 75 = .ok (.checkcast 61, 3) := by decide +kernel
theorem dX2_findKeysUpTo_78 : decode cX2_findKeysUpTo 78 = .ok (.aload_n 1, 1) := by decide +kernel
theorem dX2_findKeysUpTo_79 : decode cX2_findKeysUpTo 79 = .ok (.iload_n 2, 1) := by decide +kernel
theorem dX2_findKeysUpTo_80 : decode cX2_findKeysUpTo 80 = .ok (.invokevirtual 285, 3) := by decide +kernel
theorem dX2_findKeysUpTo_83 : decode cX2_findKeysUpTo 83 = .ok (.iinc 4 1, 3) := by decide +kernel
theorem dX2_findKeysUpTo_86 : decode cX2_findKeysUpTo 86 = .ok (.goto (-42), 3) := by decide +kernel
theorem dX2_findKeysUpTo_89 : decode cX2_findKeysUpTo 89 = .ok (.return_, 1) := by decide +kernel
theorem dX2_addFloorToSetsOf_0 : decode cX2_addFloorToSetsOf 0 = .ok (.aload_n 2, 1) := by decide +kernel
theorem dX2_addFloorToSetsOf_1 : decode cX2_addFloorToSetsOf 1 = .ok (.getfield 74, 3) := by decide +kernel
theorem dX2_addFloorToSetsOf_4 : decode cX2_addFloorToSetsOf 4 = .ok (.aload_n 0, 1) := by decide +kernel
theorem dX2_addFloorToSetsOf_5 : decode cX2_addFloorToSetsOf 5 = .ok (.aload_n 1, 1) := by decide +kernel
theorem dX2_addFloorToSetsOf_6 : decode cX2_addFloorToSetsOf 6 = .ok (.getfield 121, 3) := by decide +kernel
theorem dX2_addFloorToSetsOf_9 : decode cX2_addFloorToSetsOf 9 = .ok (.aload_n 2, 1) := by decide +kernel
theorem dX2_addFloorToSetsOf_10 : decode cX2_addFloorToSetsOf 10 = .ok (.getfield 121, 3) := by decide +kernel
theorem dX2_addFloorToSetsOf_13 : decode cX2_addFloorToSetsOf 13 = .ok (.invokevirtual 273, 3) := by decide +kernel
theorem dX2_addFloorToSetsOf_16 : decode cX2_addFloorToSetsOf 16 = .ok (.iadd, 1) := by decide +kernel
theorem dX2_addFloorToSetsOf_17 : decode cX2_addFloorToSetsOf 17 = .ok (.istore 4, 2) := by decide +kernel
theorem dX2_addFloorToSetsOf_19 : decode cX2_addFloorToSetsOf 19 = .ok (.iconst 0, 1) := by decide +kernel
theorem dX2_addFloorToSetsOf_20 : decode cX2_addFloorToSetsOf 20 = .ok (.istore 5, 2) := by decide +kernel
theorem dX2_addFloorToSetsOf_22 : decode cX2_addFloorToSetsOf 22 = .ok (.iload 5, 2) := by decide +kernel
theorem dX2_addFloorToSetsOf_24 : decode cX2_addFloorToSetsOf 24 = .ok (.iload_n 3, 1) := by decide +kernel
theorem dX2_addFloorToSetsOf_25 : decode cX2_addFloorToSetsOf 25 = .ok (.if_icmp .gt 56, 3) := by decide +kernel
theorem dX2_addFloorToSetsOf_28 : decode cX2_addFloorToSetsOf 28 = .ok (.aload_n 1, 1) := by decide +kernel
theorem dX2_addFloorToSetsOf_29 : decode cX2_addFloorToSetsOf 29 = .ok (.iload 5, 2) := by decide +kernel
theorem dX2_addFloorToSetsOf_31 : decode cX2_addFloorToSetsOf 31 = .ok (.invokevirtual 270, 3) := by decide +kernel
theorem dX2_addFloorToSetsOf_34 : decode cX2_addFloorToSetsOf 34 = .ok (.istore 6, 2) := by decide +kernel
theorem dX2_addFloorToSetsOf_36 : decode cX2_addFloorToSetsOf 36 = .ok (.iload 6, 2) := by decide +kernel
theorem dX2_addFloorToSetsOf_38 : decode cX2_addFloorToSetsOf 38 = .ok (.ldc 137, 2) := by decide +kernel
theorem dX2_addFloorToSetsOf_40 : decode cX2_addFloorToSetsOf 40 = .ok (.if_icmp .eq 35, 3) := by decide +kernel
theorem dX2_addFloorToSetsOf_43 : decode cX2_addFloorToSetsOf 43 = .ok (.iload 5, 2) := by decide +kernel
theorem dX2_addFloorToSetsOf_45 : decode cX2_addFloorToSetsOf 45 = .ok (.aload_n 2, 1) := by decide +kernel
theorem dX2_addFloorToSetsOf_46 : decode cX2_addFloorToSetsOf 46 = .ok (.getfield 225, 3) := by decide +kernel
theorem dX2_addFloorToSetsOf_49 : decode cX2_addFloorToSetsOf 49 = .ok (.iadd, 1) := by decide +kernel
theorem dX2_addFloorToSetsOf_50 : decode cX2_addFloorToSetsOf 50 = .ok (.iload_n 3, 1) := by decide +kernel
theorem dX2_addFloorToSetsOf_51 : decode cX2_addFloorToSetsOf 51 = .ok (.invokestatic 260, 3) := by decide +kernel
theorem dX2_addFloorToSetsOf_54 : decode cX2_addFloorToSetsOf 54 = .ok (.istore 7, 2) := by decide +kernel
theorem dX2_addFloorToSetsOf_56 : decode cX2_addFloorToSetsOf 56 = .ok (.aload_n 2, 1) := by decide +kernel
theorem dX2_addFloorToSetsOf_57 : decode cX2_addFloorToSetsOf 57 = .ok (.iload 7, 2) := by decide +kernel
theorem dX2_addFloorToSetsOf_59 : decode cX2_addFloorToSetsOf 59 = .ok (.iload 6, 2) := by decide +kernel
theorem dX2_addFloorToSetsOf_61 : decode cX2_addFloorToSetsOf 61 = .ok (.bipush 64, 2) := by decide +kernel
theorem dX2_addFloorToSetsOf_63 : decode cX2_addFloorToSetsOf 63 = .ok (.iload 4, 2) := by decide +kernel
theorem dX2_addFloorToSetsOf_65 : decode cX2_addFloorToSetsOf 65 = .ok (.imul, 1) := by decide +kernel
theorem dX2_addFloorToSetsOf_66 : decode cX2_addFloorToSetsOf 66 = .ok (.iadd, 1) := by decide +kernel
theorem dX2_addFloorToSetsOf_67 : decode cX2_addFloorToSetsOf 67 = .ok (.aload_n 2, 1) := by decide +kernel
theorem dX2_addFloorToSetsOf_68 : decode cX2_addFloorToSetsOf 68 = .ok (.invokevirtual 279, 3) := by decide +kernel
theorem dX2_addFloorToSetsOf_71 : decode cX2_addFloorToSetsOf 71 = .ok (.iadd, 1) := by decide +kernel
theorem dX2_addFloorToSetsOf_72 : decode cX2_addFloorToSetsOf 72 = .ok (.invokevirtual 282, 3) := by decide +kernel
theorem dX2_addFloorToSetsOf_75 : decode cX2_addFloorToSetsOf 75 = .ok (.iinc 5 1, 3) := by decide +kernel
theorem dX2_addFloorToSetsOf_78 : decode cX2_addFloorToSetsOf 78 = .ok (.goto (-56), 3) := by decide +kernel
theorem dX2_addFloorToSetsOf_81 : decode cX2_addFloorToSetsOf 81 = .ok (.return_, 1) := by decide +kernel
theorem dX2_lossBetween_0 : decode cX2_lossBetween 0 = .ok (.iconst 0, 1) := by decide +kernel
theorem dX2_lossBetween_1 : decode cX2_lossBetween 1 = .ok (.istore_n 3, 1) := by decide +kernel
theorem dX2_lossBetween_2 : decode cX2_lossBetween 2 = .ok (.iconst 0, 1) := by decide +kernel
theorem dX2_lossBetween_3 : decode cX2_lossBetween 3 = .ok (.istore 4, 2) := by decide +kernel
theorem dX2_lossBetween_5 : decode cX2_lossBetween 5 = .ok (.iload 4, 2) := by decide +kernel
theorem dX2_lossBetween_7 : decode cX2_lossBetween 7 = .ok (.aload_n 0, 1) := by decide +kernel
theorem dX2_lossBetween_8 : decode cX2_lossBetween 8 = .ok (.getfield 21, 3) := by decide +kernel
theorem dX2_lossBetween_11 : decode cX2_lossBetween 11 = .ok (.invokevirtual 52, 3) := by decide +kernel
theorem dX2_lossBetween_14 : decode cX2_lossBetween 14 = .ok (.if_icmp .ge 69, 3) := by decide +kernel
theorem dX2_lossBetween_17 : decode cX2_lossBetween 17 = .ok (.aload_n 0, 1) := by decide +kernel
theorem dX2_lossBetween_18 : decode cX2_lossBetween 18 = .ok (.getfield 21, 3) := by decide +kernel
theorem dX2_lossBetween_21 : decode cX2_lossBetween 21 = .ok (.iload 4, 2) := by decide +kernel
theorem dX2_lossBetween_23 : decode cX2_lossBetween 23 = .ok (.invokevirtual 129, 3) := by decide +kernel
theorem dX2_lossBetween_26 : decode cX2_lossBetween 26 = .ok (.checkcast 82, 3) := by decide +kernel
theorem dX2_lossBetween_29 : decode cX2_lossBetween 29 = .ok (.getfield 94, 3) := by decide +kernel
theorem dX2_lossBetween_32 : decode cX2_lossBetween 32 = .ok (.astore 5, 2) := by decide +kernel
theorem dX2_lossBetween_34 : decode cX2_lossBetween 34 = .ok (.aload 5, 2) := by decide +kernel
theorem dX2_lossBetween_36 : decode cX2_lossBetween 36 = .ok (.ifnull 41, 3) := by decide +kernel
theorem dX2_lossBetween_39 : decode cX2_lossBetween 39 = .ok (.aload 5, 2) := by decide +kernel
theorem dX2_lossBetween_41 : decode cX2_lossBetween 41 = .ok (.getfield 121, 3) := by decide +kernel
theorem dX2_lossBetween_44 : decode cX2_lossBetween 44 = .ok (.iload_n 1, 1) := by decide +kernel
theorem dX2_lossBetween_45 : decode cX2_lossBetween 45 = .ok (.if_icmp .le 32, 3) := by decide +kernel
theorem dX2_lossBetween_48 : decode cX2_lossBetween 48 = .ok (.aload 5, 2) := by decide +kernel
theorem dX2_lossBetween_50 : decode cX2_lossBetween 50 = .ok (.getfield 121, 3) := by decide +kernel
theorem dX2_lossBetween_53 : decode cX2_lossBetween 53 = .ok (.iload_n 2, 1) := by decide +kernel
theorem dX2_lossBetween_54 : decode cX2_lossBetween 54 = .ok (.if_icmp .ge 23, 3) := by decide +kernel
theorem dX2_lossBetween_57 : decode cX2_lossBetween 57 = .ok (.iload_n 3, 1) := by decide +kernel
theorem dX2_lossBetween_58 : decode cX2_lossBetween 58 = .ok (.aload 5, 2) := by decide +kernel
theorem dX2_lossBetween_60 : decode cX2_lossBetween 60 = .ok (.getfield 121, 3) := by decide +kernel
theorem dX2_lossBetween_63 : decode cX2_lossBetween 63 = .ok (.iload_n 1, 1) := by decide +kernel
theorem dX2_lossBetween_64 : decode cX2_lossBetween 64 = .ok (.isub, 1) := by decide +kernel
theorem dX2_lossBetween_65 : decode cX2_lossBetween 65 = .ok (.iload_n 2, 1) := by decide +kernel
theorem dX2_lossBetween_66 : decode cX2_lossBetween 66 = .ok (.aload 5, 2) := by decide +kernel
theorem dX2_lossBetween_68 : decode cX2_lossBetween 68 = .ok (.getfield 121, 3) := by decide +kernel
theorem dX2_lossBetween_71 : decode cX2_lossBetween 71 = .ok (.isub, 1) := by decide +kernel
theorem dX2_lossBetween_72 : decode cX2_lossBetween 72 = .ok (.invokestatic 260, 3) := by decide +kernel
theorem dX2_lossBetween_75 : decode cX2_lossBetween 75 = .ok (.iadd, 1) := by decide +kernel
theorem dX2_lossBetween_76 : decode cX2_lossBetween 76 = .ok (.istore_n 3, 1) := by decide +kernel
theorem dX2_lossBetween_77 : decode cX2_lossBetween 77 = .ok (.iinc 4 1, 3) := by decide +kernel
theorem dX2_lossBetween_80 : decode cX2_lossBetween 80 = .ok (.goto (-75), 3) := by decide +kernel
theorem dX2_lossBetween_83 : decode cX2_lossBetween 83 = .ok (.iconst 3, 1) := by decide +kernel
theorem dX2_lossBetween_84 : decode cX2_lossBetween 84 = .ok (.iload_n 3, 1) := by decide +kernel
theorem dX2_lossBetween_85 : decode cX2_lossBetween 85 = .ok (.imul, 1) := by decide +kernel
theorem dX2_lossBetween_86 : decode cX2_lossBetween 86 = .ok (.ireturn, 1) := by decide +kernel
theorem dX2_countNoShows_0 : decode cX2_countNoShows 0 = .ok (.iconst 0, 1) := by decide +kernel
theorem dX2_countNoShows_1 : decode cX2_countNoShows 1 = .ok (.istore_n 1, 1) := by decide +kernel
theorem dX2_countNoShows_2 : decode cX2_countNoShows 2 = .ok (.iconst 0, 1) := by decide +kernel
theorem dX2_countNoShows_3 : decode cX2_countNoShows 3 = .ok (.istore_n 2, 1) := by decide +kernel
theorem dX2_countNoShows_4 : decode cX2_countNoShows 4 = .ok (.iload_n 2, 1) := by decide +kernel
theorem dX2_countNoShows_5 : decode cX2_countNoShows 5 = .ok (.aload_n 0, 1) := by decide +kernel
theorem dX2_countNoShows_6 : decode cX2_countNoShows 6 = .ok (.getfield 18, 3) := by decide +kernel
theorem dX2_countNoShows_9 : decode cX2_countNoShows 9 = .ok (.invokevirtual 52, 3) := by decide +kernel
theorem dX2_countNoShows_12 : decode cX2_countNoShows 12 = .ok (.if_icmp .ge 34, 3) := by decide +kernel
theorem dX2_countNoShows_15 : decode cX2_countNoShows 15 = .ok (.iload_n 1, 1) := by decide +kernel
theorem dX2_countNoShows_16 : decode cX2_countNoShows 16 = .ok (.aload_n 0, 1) := by decide +kernel
theorem dX2_countNoShows_17 : decode cX2_countNoShows 17 = .ok (.getfield 18, 3) := by decide +kernel
theorem dX2_countNoShows_20 : decode cX2_countNoShows 20 = .ok (.iload_n 2, 1) := by decide +kernel
theorem dX2_countNoShows_21 : decode cX2_countNoShows 21 = .ok (.invokevirtual 129, 3) := by decide +kernel
theorem dX2_countNoShows_24 : decode cX2_countNoShows 24 = .ok (.checkcast 82, 3) := by decide +kernel
theorem dX2_countNoShows_27 : decode cX2_countNoShows 27 = .ok (.invokevirtual 289, 3) := by decide +kernel
theorem dX2_countNoShows_30 : decode cX2_countNoShows 30 = .ok (.ifCond .eq 7, 3) := by decide +kernel
theorem dX2_countNoShows_33 : decode cX2_countNoShows 33 = .ok (.iconst 1, 1) := by decide +kernel
theorem dX2_countNoShows_34 : decode cX2_countNoShows 34 = .ok (.goto 4, 3) := by decide +kernel
theorem dX2_countNoShows_37 : decode cX2_countNoShows 37 = .ok (.iconst 0, 1) := by decide +kernel
theorem dX2_countNoShows_38 : decode cX2_countNoShows 38 = .ok (.iadd, 1) := by decide +kernel
theorem dX2_countNoShows_39 : decode cX2_countNoShows 39 = .ok (.istore_n 1, 1) := by decide +kernel
theorem dX2_countNoShows_40 : decode cX2_countNoShows 40 = .ok (.iinc 2 1, 3) := by decide +kernel
theorem dX2_countNoShows_43 : decode cX2_countNoShows 43 = .ok (.goto (-39), 3) := by decide +kernel
theorem dX2_countNoShows_46 : decode cX2_countNoShows 46 = .ok (.iload_n 1, 1) := by decide +kernel
theorem dX2_countNoShows_47 : decode cX2_countNoShows 47 = .ok (.ireturn, 1) := by decide +kernel
theorem dX2_judgePeople_0 : decode cX2_judgePeople 0 = .ok (.iconst 0, 1) := by decide +kernel
theorem dX2_judgePeople_1 : decode cX2_judgePeople 1 = .ok (.istore_n 1, 1) := by decide +kernel
theorem dX2_judgePeople_2 : decode cX2_judgePeople 2 = .ok (.iload_n 1, 1) := by decide +kernel
theorem dX2_judgePeople_3 : decode cX2_judgePeople 3 = .ok (.aload_n 0, 1) := by decide +kernel
theorem dX2_judgePeople_4 : decode cX2_judgePeople 4 = .ok (.getfield 18, 3) := by decide +kernel
theorem dX2_judgePeople_7 : decode cX2_judgePeople 7 = .ok (.invokevirtual 52, 3) := by decide +kernel
theorem dX2_judgePeople_10 : decode cX2_judgePeople 10 = .ok (.if_icmp .ge 23, 3) := by decide +kernel
theorem dX2_judgePeople_13 : decode cX2_judgePeople 13 = .ok (.aload_n 0, 1) := by decide +kernel
theorem dX2_judgePeople_14 : decode cX2_judgePeople 14 = .ok (.getfield 18, 3) := by decide +kernel
theorem dX2_judgePeople_17 : decode cX2_judgePeople 17 = .ok (.iload_n 1, 1) := by decide +kernel
theorem dX2_judgePeople_18 : decode cX2_judgePeople 18 = .ok (.invokevirtual 129, 3) := by decide +kernel
theorem dX2_judgePeople_21 : decode cX2_judgePeople 21 = .ok (.checkcast 82, 3) := by decide +kernel
theorem dX2_judgePeople_24 : decode cX2_judgePeople 24 = .ok (.invokevirtual 292, 3) := by decide +kernel
theorem dX2_judgePeople_27 : decode cX2_judgePeople 27 = .ok (.iinc 1 1, 3) := by decide +kernel
theorem dX2_judgePeople_30 : decode cX2_judgePeople 30 = .ok (.goto (-28), 3) := by decide +kernel
theorem dX2_judgePeople_33 : decode cX2_judgePeople 33 = .ok (.return_, 1) := by decide +kernel
theorem dX2_cleanOpenFloors_0 : decode cX2_cleanOpenFloors 0 = .ok (.iconst 0, 1) := by decide +kernel
theorem dX2_cleanOpenFloors_1 : decode cX2_cleanOpenFloors 1 = .ok (.istore_n 1, 1) := by decide +kernel
theorem dX2_cleanOpenFloors_2 : decode cX2_cleanOpenFloors 2 = .ok (.iload_n 1, 1) := by decide +kernel
theorem dX2_cleanOpenFloors_3 : decode cX2_cleanOpenFloors 3 = .ok (.aload_n 0, 1) := by decide +kernel
theorem dX2_cleanOpenFloors_4 : decode cX2_cleanOpenFloors 4 = .ok (.getfield 12, 3) := by decide +kernel
theorem dX2_cleanOpenFloors_7 : decode cX2_cleanOpenFloors 7 = .ok (.invokevirtual 52, 3) := by decide +kernel
theorem dX2_cleanOpenFloors_10 : decode cX2_cleanOpenFloors 10 = .ok (.if_icmp .ge 48, 3) := by decide +kernel
theorem dX2_cleanOpenFloors_13 : decode cX2_cleanOpenFloors 13 = .ok (.aload_n 0, 1) := by decide +kernel
theorem dX2_cleanOpenFloors_14 : decode cX2_cleanOpenFloors 14 = .ok (.getfield 12, 3) := by decide +kernel
theorem dX2_cleanOpenFloors_17 : decode cX2_cleanOpenFloors 17 = .ok (.iload_n 1, 1) := by decide +kernel
theorem dX2_cleanOpenFloors_18 : decode cX2_cleanOpenFloors 18 = .ok (.invokevirtual 129, 3) := by decide +kernel
theorem dX2_cleanOpenFloors_21 : decode cX2_cleanOpenFloors 21 = .ok (.checkcast 61, 3) := by decide +kernel
theorem dX2_cleanOpenFloors_24 : decode cX2_cleanOpenFloors 24 = .ok (.astore_n 2, 1) := by decide +kernel
theorem dX2_cleanOpenFloors_25 : decode cX2_cleanOpenFloors 25 = .ok (.aload_n 2, 1) := by decide +kernel
theorem dX2_cleanOpenFloors_26 : decode cX2_cleanOpenFloors 26 = .ok (.getfield 194, 3) := by decide +kernel
theorem dX2_cleanOpenFloors_29 : decode cX2_cleanOpenFloors 29 = .ok (.ifCond .eq 23, 3) := by decide +kernel
theorem dX2_cleanOpenFloors_32 : decode cX2_cleanOpenFloors 32 = .ok (.aload_n 0, 1) := by decide +kernel
theorem dX2_cleanOpenFloors_33 : decode cX2_cleanOpenFloors 33 = .ok (.dup, 1) := by decide +kernel
theorem dX2_cleanOpenFloors_34 : decode cX2_cleanOpenFloors 34 = .ok (.getfield 38, 3) := by decide +kernel
theorem dX2_cleanOpenFloors_37 : decode cX2_cleanOpenFloors 37 = .ok (.bipush 10, 2) := by decide +kernel
theorem dX2_cleanOpenFloors_39 : decode cX2_cleanOpenFloors 39 = .ok (.iconst 5, 1) := by decide +kernel
theorem dX2_cleanOpenFloors_40 : decode cX2_cleanOpenFloors 40 = .ok (.aload_n 0, 1) := by decide +kernel
theorem dX2_cleanOpenFloors_41 : decode cX2_cleanOpenFloors 41 = .ok (.aload_n 2, 1) := by decide +kernel
theorem dX2_cleanOpenFloors_42 : decode cX2_cleanOpenFloors 42 = .ok (.invokevirtual 295, 3) := by decide +kernel
theorem dX2_cleanOpenFloors_45 : decode cX2_cleanOpenFloors 45 = .ok (.imul, 1) := by decide +kernel
theorem dX2_cleanOpenFloors_46 : decode cX2_cleanOpenFloors 46 = .ok (.iadd, 1) := by decide +kernel
theorem dX2_cleanOpenFloors_47 : decode cX2_cleanOpenFloors 47 = .ok (.i2l, 1) := by decide +kernel
theorem dX2_cleanOpenFloors_48 : decode cX2_cleanOpenFloors 48 = .ok (.ladd, 1) := by decide +kernel
theorem dX2_cleanOpenFloors_49 : decode cX2_cleanOpenFloors 49 = .ok (.putfield 38, 3) := by decide +kernel
theorem dX2_cleanOpenFloors_52 : decode cX2_cleanOpenFloors 52 = .ok (.iinc 1 1, 3) := by decide +kernel
theorem dX2_cleanOpenFloors_55 : decode cX2_cleanOpenFloors 55 = .ok (.goto (-53), 3) := by decide +kernel
theorem dX2_cleanOpenFloors_58 : decode cX2_cleanOpenFloors 58 = .ok (.return_, 1) := by decide +kernel
theorem dX2_sendPeopleHome_0 : decode cX2_sendPeopleHome 0 = .ok (.iconst 0, 1) := by decide +kernel
theorem dX2_sendPeopleHome_1 : decode cX2_sendPeopleHome 1 = .ok (.istore_n 1, 1) := by decide +kernel
theorem dX2_sendPeopleHome_2 : decode cX2_sendPeopleHome 2 = .ok (.iload_n 1, 1) := by decide +kernel
theorem dX2_sendPeopleHome_3 : decode cX2_sendPeopleHome 3 = .ok (.aload_n 0, 1) := by decide +kernel
theorem dX2_sendPeopleHome_4 : decode cX2_sendPeopleHome 4 = .ok (.getfield 18, 3) := by decide +kernel
theorem dX2_sendPeopleHome_7 : decode cX2_sendPeopleHome 7 = .ok (.invokevirtual 52, 3) := by decide +kernel
theorem dX2_sendPeopleHome_10 : decode cX2_sendPeopleHome 10 = .ok (.if_icmp .ge 23, 3) := by decide +kernel
theorem dX2_sendPeopleHome_13 : decode cX2_sendPeopleHome 13 = .ok (.aload_n 0, 1) := by decide +kernel
theorem dX2_sendPeopleHome_14 : decode cX2_sendPeopleHome 14 = .ok (.getfield 18, 3) := by decide +kernel
theorem dX2_sendPeopleHome_17 : decode cX2_sendPeopleHome 17 = .ok (.iload_n 1, 1) := by decide +kernel
theorem dX2_sendPeopleHome_18 : decode cX2_sendPeopleHome 18 = .ok (.invokevirtual 129, 3) := by decide +kernel
theorem dX2_sendPeopleHome_21 : decode cX2_sendPeopleHome 21 = .ok (.checkcast 82, 3) := by decide +kernel
theorem dX2_sendPeopleHome_24 : decode cX2_sendPeopleHome 24 = .ok (.invokevirtual 298, 3) := by decide +kernel
theorem dX2_sendPeopleHome_27 : decode cX2_sendPeopleHome 27 = .ok (.iinc 1 1, 3) := by decide +kernel
theorem dX2_sendPeopleHome_30 : decode cX2_sendPeopleHome 30 = .ok (.goto (-28), 3) := by decide +kernel
theorem dX2_sendPeopleHome_33 : decode cX2_sendPeopleHome 33 = .ok (.return_, 1) := by decide +kernel
theorem dX2_openFloorsOf_0 : decode cX2_openFloorsOf 0 = .ok (.iconst 0, 1) := by decide +kernel
theorem dX2_openFloorsOf_1 : decode cX2_openFloorsOf 1 = .ok (.istore_n 2, 1) := by decide +kernel
theorem dX2_openFloorsOf_2 : decode cX2_openFloorsOf 2 = .ok (.iload_n 2, 1) := by decide +kernel
theorem dX2_openFloorsOf_3 : decode cX2_openFloorsOf 3 = .ok (.aload_n 0, 1) := by decide +kernel
theorem dX2_openFloorsOf_4 : decode cX2_openFloorsOf 4 = .ok (.getfield 12, 3) := by decide +kernel
theorem dX2_openFloorsOf_7 : decode cX2_openFloorsOf 7 = .ok (.invokevirtual 52, 3) := by decide +kernel
theorem dX2_openFloorsOf_10 : decode cX2_openFloorsOf 10 = .ok (.if_icmp .ge 30, 3) := by decide +kernel
theorem dX2_openFloorsOf_13 : decode cX2_openFloorsOf 13 = .ok (.aload_n 0, 1) := by decide +kernel
theorem dX2_openFloorsOf_14 : decode cX2_openFloorsOf 14 = .ok (.getfield 12, 3) := by decide +kernel
theorem dX2_openFloorsOf_17 : decode cX2_openFloorsOf 17 = .ok (.iload_n 2, 1) := by decide +kernel
theorem dX2_openFloorsOf_18 : decode cX2_openFloorsOf 18 = .ok (.invokevirtual 129, 3) := by decide +kernel
theorem dX2_openFloorsOf_21 : decode cX2_openFloorsOf 21 = .ok (.checkcast 61, 3) := by decide +kernel
theorem dX2_openFloorsOf_24 : decode cX2_openFloorsOf 24 = .ok (.astore_n 3, 1) := by decide +kernel
theorem dX2_openFloorsOf_25 : decode cX2_openFloorsOf 25 = .ok (.aload_n 3, 1) := by decide +kernel
theorem dX2_openFloorsOf_26 : decode cX2_openFloorsOf 26 = .ok (.aload_n 3, 1) := by decide +kernel
theorem dX2_openFloorsOf_27 : decode cX2_openFloorsOf 27 = .ok (.iload_n 1, 1) := by decide +kernel
theorem dX2_openFloorsOf_28 : decode cX2_openFloorsOf 28 = .ok (.invokevirtual 250, 3) := by decide +kernel
theorem dX2_openFloorsOf_31 : decode cX2_openFloorsOf 31 = .ok (.putfield 194, 3) := by decide +kernel
theorem dX2_openFloorsOf_34 : decode cX2_openFloorsOf 34 = .ok (.iinc 2 1, 3) := by decide +kernel
theorem dX2_openFloorsOf_37 : decode cX2_openFloorsOf 37 = .ok (.goto (-35), 3) := by decide +kernel
theorem dX2_openFloorsOf_40 : decode cX2_openFloorsOf 40 = .ok (.return_, 1) := by decide +kernel
theorem dX2_giveSeats_0 : decode cX2_giveSeats 0 = .ok (.bipush 10, 2) := by decide +kernel
theorem dX2_giveSeats_2 : decode cX2_giveSeats 2 = .ok (.istore_n 1, 1) := by decide +kernel
theorem dX2_giveSeats_3 : decode cX2_giveSeats 3 = .ok (.iload_n 1, 1) := by decide +kernel
theorem dX2_giveSeats_4 : decode cX2_giveSeats 4 = .ok (.ifCond .lt 53, 3) := by decide +kernel
theorem dX2_giveSeats_7 : decode cX2_giveSeats 7 = .ok (.iconst 0, 1) := by decide +kernel
theorem dX2_giveSeats_8 : decode cX2_giveSeats 8 = .ok (.istore_n 2, 1) := by decide +kernel
theorem dX2_giveSeats_9 : decode cX2_giveSeats 9 = .ok (.iload_n 2, 1) := by decide +kernel
theorem dX2_giveSeats_10 : decode cX2_giveSeats 10 = .ok (.aload_n 0, 1) := by decide +kernel
theorem dX2_giveSeats_11 : decode cX2_giveSeats 11 = .ok (.getfield 21, 3) := by decide +kernel
theorem dX2_giveSeats_14 : decode cX2_giveSeats 14 = .ok (.invokevirtual 52, 3) := by decide +kernel
theorem dX2_giveSeats_17 : decode cX2_giveSeats 17 = .ok (.if_icmp .ge 34, 3) := by decide +kernel
theorem dX2_giveSeats_20 : decode cX2_giveSeats 20 = .ok (.aload_n 0, 1) := by decide +kernel
theorem dX2_giveSeats_21 : decode cX2_giveSeats 21 = .ok (.getfield 21, 3) := by decide +kernel
theorem dX2_giveSeats_24 : decode cX2_giveSeats 24 = .ok (.iload_n 2, 1) := by decide +kernel
theorem dX2_giveSeats_25 : decode cX2_giveSeats 25 = .ok (.invokevirtual 129, 3) := by decide +kernel
theorem dX2_giveSeats_28 : decode cX2_giveSeats 28 = .ok (.checkcast 82, 3) := by decide +kernel
theorem dX2_giveSeats_31 : decode cX2_giveSeats 31 = .ok (.astore_n 3, 1) := by decide +kernel
theorem dX2_giveSeats_32 : decode cX2_giveSeats 32 = .ok (.aload_n 3, 1) := by decide +kernel
theorem dX2_giveSeats_33 : decode cX2_giveSeats 33 = .ok (.getfield 91, 3) := by decide +kernel
theorem dX2_giveSeats_36 : decode cX2_giveSeats 36 = .ok (.iload_n 1, 1) := by decide +kernel
theorem dX2_giveSeats_37 : decode cX2_giveSeats 37 = .ok (.if_icmp .ne 8, 3) := by decide +kernel
theorem dX2_giveSeats_40 : decode cX2_giveSeats 40 = .ok (.aload_n 0, 1) := by decide +kernel
theorem dX2_giveSeats_41 : decode cX2_giveSeats 41 = .ok (.aload_n 3, 1) := by decide +kernel
theorem dX2_giveSeats_42 : decode cX2_giveSeats 42 = .ok (.invokevirtual 301, 3) := by decide +kernel
theorem dX2_giveSeats_45 : decode cX2_giveSeats 45 = .ok (.iinc 2 1, 3) := by decide +kernel
theorem dX2_giveSeats_48 : decode cX2_giveSeats 48 = .ok (.goto (-39), 3) := by decide +kernel
theorem dX2_giveSeats_51 : decode cX2_giveSeats 51 = .ok (.iinc 1 (-1), 3) := by decide +kernel
theorem dX2_giveSeats_54 : decode cX2_giveSeats 54 = .ok (.goto (-51), 3) := by decide +kernel
theorem dX2_giveSeats_57 : decode cX2_giveSeats 57 = .ok (.return_, 1) := by decide +kernel
theorem dX2_giveSeat_0 : decode cX2_giveSeat 0 = .ok (.aconst_null, 1) := by decide +kernel
theorem dX2_giveSeat_1 : decode cX2_giveSeat 1 = .ok (.astore_n 2, 1) := by decide +kernel
theorem dX2_giveSeat_2 : decode cX2_giveSeat 2 = .ok (.iconst 0, 1) := by decide +kernel
theorem dX2_giveSeat_3 : decode cX2_giveSeat 3 = .ok (.istore_n 3, 1) := by decide +kernel
theorem dX2_giveSeat_4 : decode cX2_giveSeat 4 = .ok (.iload_n 3, 1) := by decide +kernel
theorem dX2_giveSeat_5 : decode cX2_giveSeat 5 = .ok (.aload_n 0, 1) := by decide +kernel
theorem dX2_giveSeat_6 : decode cX2_giveSeat 6 = .ok (.getfield 12, 3) := by decide +kernel
theorem dX2_giveSeat_9 : decode cX2_giveSeat 9 = .ok (.invokevirtual 52, 3) := by decide +kernel
theorem dX2_giveSeat_12 : decode cX2_giveSeat 12 = .ok (.if_icmp .ge 74, 3) := by decide +kernel
theorem dX2_giveSeat_15 : decode cX2_giveSeat 15 = .ok (.aload_n 0, 1) := by decide +kernel
theorem dX2_giveSeat_16 : decode cX2_giveSeat 16 = .ok (.getfield 12, 3) := by decide +kernel
theorem dX2_giveSeat_19 : decode cX2_giveSeat 19 = .ok (.iload_n 3, 1) := by decide +kernel
theorem dX2_giveSeat_20 : decode cX2_giveSeat 20 = .ok (.invokevirtual 129, 3) := by decide +kernel
theorem dX2_giveSeat_23 : decode cX2_giveSeat 23 = .ok (.checkcast 61, 3) := by decide +kernel
theorem dX2_giveSeat_26 : decode cX2_giveSeat 26 = .ok (.astore 4, 2) := by decide +kernel
theorem dX2_giveSeat_28 : decode cX2_giveSeat 28 = .ok (.aload 4, 2) := by decide +kernel
theorem dX2_giveSeat_30 : decode cX2_giveSeat 30 = .ok (.getfield 194, 3) := by decide +kernel
theorem dX2_giveSeat_33 : decode cX2_giveSeat 33 = .ok (.ifCond .eq 21, 3) := by decide +kernel
theorem dX2_giveSeat_36 : decode cX2_giveSeat 36 = .ok (.aload_n 0, 1) := by decide +kernel
theorem dX2_giveSeat_37 : decode cX2_giveSeat 37 = .ok (.aload 4, 2) := by decide +kernel
theorem dX2_giveSeat_39 : decode cX2_giveSeat 39 = .ok (.invokevirtual 222, 3) := by decide +kernel
theorem dX2_giveSeat_42 : decode cX2_giveSeat 42 = .ok (.aload 4, 2) := by decide +kernel
theorem dX2_giveSeat_44 : decode cX2_giveSeat 44 = .ok (.getfield 225, 3) := by decide +kernel
theorem dX2_giveSeat_47 : decode cX2_giveSeat 47 = .ok (.if_icmp .ge 7, 3) := by decide +kernel
theorem dX2_giveSeat_50 : decode cX2_giveSeat 50 = .ok (.iconst 1, 1) := by decide +kernel
theorem dX2_giveSeat_51 : decode cX2_giveSeat 51 = .ok (.goto 4, 3) := by decide +kernel
theorem dX2_giveSeat_54 : decode cX2_giveSeat 54 = .ok (.iconst 0, 1) := by decide +kernel
theorem dX2_giveSeat_55 : decode cX2_giveSeat 55 = .ok (.istore 5, 2) := by decide +kernel
theorem dX2_giveSeat_57 : decode cX2_giveSeat 57 = .ok (.iload 5, 2) := by decide +kernel
theorem dX2_giveSeat_59 : decode cX2_giveSeat 59 = .ok (.ifCond .eq 21, 3) := by decide +kernel
theorem dX2_giveSeat_62 : decode cX2_giveSeat 62 = .ok (.aload_n 2, 1) := by decide +kernel
theorem dX2_giveSeat_63 : decode cX2_giveSeat 63 = .ok (.ifnull 14, 3) := by decide +kernel
theorem dX2_giveSeat_66 : decode cX2_giveSeat 66 = .ok (.aload_n 0, 1) := by decide +kernel
theorem dX2_giveSeat_67 : decode cX2_giveSeat 67 = .ok (.aload_n 1, 1) := by decide +kernel
theorem dX2_giveSeat_68 : decode cX2_giveSeat 68 = .ok (.aload 4, 2) := by decide +kernel
theorem dX2_giveSeat_70 : decode cX2_giveSeat 70 = .ok (.aload_n 2, 1) := by decide +kernel
theorem dX2_giveSeat_71 : decode cX2_giveSeat 71 = .ok (.invokevirtual 304, 3) := by decide +kernel
theorem dX2_giveSeat_74 : decode cX2_giveSeat 74 = .ok (.ifCond .eq 6, 3) := by decide +kernel
theorem dX2_giveSeat_77 : decode cX2_giveSeat 77 = .ok (.aload 4, 2) := by decide +kernel
theorem dX2_giveSeat_79 : decode cX2_giveSeat 79 = .ok (.astore_n 2, 1) := by decide +kernel
theorem dX2_giveSeat_80 : decode cX2_giveSeat 80 = .ok (.iinc 3 1, 3) := by decide +kernel
theorem dX2_giveSeat_83 : decode cX2_giveSeat 83 = .ok (.goto (-79), 3) := by decide +kernel
theorem dX2_giveSeat_86 : decode cX2_giveSeat 86 = .ok (.aload_n 1, 1) := by decide +kernel
theorem dX2_giveSeat_87 : decode cX2_giveSeat 87 = .ok (.aload_n 2, 1) := by decide +kernel
theorem dX2_giveSeat_88 : decode cX2_giveSeat 88 = .ok (.putfield 175, 3) := by decide +kernel
theorem dX2_giveSeat_91 : decode cX2_giveSeat 91 = .ok (.return_, 1) := by decide +kernel
theorem dX2_suitsBetter_0 : decode cX2_suitsBetter 0 = .ok (.aload_n 1, 1) := by decide +kernel
theorem dX2_suitsBetter_1 : decode cX2_suitsBetter 1 = .ok (.getfield 94, 3) := by decide +kernel
theorem dX2_suitsBetter_4 : decode cX2_suitsBetter 4 = .ok (.astore 4, 2) := by decide +kernel
theorem dX2_suitsBetter_6 : decode cX2_suitsBetter 6 = .ok (.aload 4, 2) := by decide +kernel
theorem dX2_suitsBetter_8 : decode cX2_suitsBetter 8 = .ok (.ifnonnull 5, 3) := by decide +kernel
theorem dX2_suitsBetter_11 : decode cX2_suitsBetter 11 = .ok (.iconst 0, 1) := by decide +kernel
theorem dX2_suitsBetter_12 : decode cX2_suitsBetter 12 = .ok (.ireturn, 1) := by decide +kernel
theorem dX2_suitsBetter_13 : decode cX2_suitsBetter 13 = .ok (.aload 4, 2) := by decide +kernel
theorem dX2_suitsBetter_15 : decode cX2_suitsBetter 15 = .ok (.aload_n 3, 1) := by decide +kernel
theorem dX2_suitsBetter_16 : decode cX2_suitsBetter 16 = .ok (.invokevirtual 257, 3) := by decide +kernel
theorem dX2_suitsBetter_19 : decode cX2_suitsBetter 19 = .ok (.aload 4, 2) := by decide +kernel
theorem dX2_suitsBetter_21 : decode cX2_suitsBetter 21 = .ok (.aload_n 2, 1) := by decide +kernel
theorem dX2_suitsBetter_22 : decode cX2_suitsBetter 22 = .ok (.invokevirtual 257, 3) := by decide +kernel
theorem dX2_suitsBetter_25 : decode cX2_suitsBetter 25 = .ok (.isub, 1) := by decide +kernel
theorem dX2_suitsBetter_26 : decode cX2_suitsBetter 26 = .ok (.istore 5, 2) := by decide +kernel
theorem dX2_suitsBetter_28 : decode cX2_suitsBetter 28 = .ok (.iload 5, 2) := by decide +kernel
theorem dX2_suitsBetter_30 : decode cX2_suitsBetter 30 = .ok (.ifCond .eq 14, 3) := by decide +kernel
theorem dX2_suitsBetter_33 : decode cX2_suitsBetter 33 = .ok (.iload 5, 2) := by decide +kernel
theorem dX2_suitsBetter_35 : decode cX2_suitsBetter 35 = .ok (.ifCond .le 7, 3) := by decide +kernel
theorem dX2_suitsBetter_38 : decode cX2_suitsBetter 38 = .ok (.iconst 1, 1) := by decide +kernel
theorem dX2_suitsBetter_39 : decode cX2_suitsBetter 39 = .ok (.goto 4, 3) := by decide +kernel
theorem dX2_suitsBetter_42 : decode cX2_suitsBetter 42 = .ok (.iconst 0, 1) := by decide +kernel
theorem dX2_suitsBetter_43 : decode cX2_suitsBetter 43 = .ok (.ireturn, 1) := by decide +kernel
theorem dX2_suitsBetter_44 : decode cX2_suitsBetter 44 = .ok (.aload_n 0, 1) := by decide +kernel
theorem dX2_suitsBetter_45 : decode cX2_suitsBetter 45 = .ok (.aload_n 1, 1) := by decide +kernel
theorem dX2_suitsBetter_46 : decode cX2_suitsBetter 46 = .ok (.getfield 308, 3) := by decide +kernel
theorem dX2_suitsBetter_49 : decode cX2_suitsBetter 49 = .ok (.aload_n 2, 1) := by decide +kernel
theorem dX2_suitsBetter_50 : decode cX2_suitsBetter 50 = .ok (.invokevirtual 197, 3) := by decide +kernel
theorem dX2_suitsBetter_53 : decode cX2_suitsBetter 53 = .ok (.aload_n 0, 1) := by decide +kernel
theorem dX2_suitsBetter_54 : decode cX2_suitsBetter 54 = .ok (.aload_n 1, 1) := by decide +kernel
theorem dX2_suitsBetter_55 : decode cX2_suitsBetter 55 = .ok (.getfield 308, 3) := by decide +kernel
theorem dX2_suitsBetter_58 : decode cX2_suitsBetter 58 = .ok (.aload_n 3, 1) := by decide +kernel
theorem dX2_suitsBetter_59 : decode cX2_suitsBetter 59 = .ok (.invokevirtual 197, 3) := by decide +kernel
theorem dX2_suitsBetter_62 : decode cX2_suitsBetter 62 = .ok (.if_icmp .le 7, 3) := by decide +kernel
theorem dX2_suitsBetter_65 : decode cX2_suitsBetter 65 = .ok (.iconst 1, 1) := by decide +kernel
theorem dX2_suitsBetter_66 : decode cX2_suitsBetter 66 = .ok (.goto 4, 3) := by decide +kernel
theorem dX2_suitsBetter_69 : decode cX2_suitsBetter 69 = .ok (.iconst 0, 1) := by decide +kernel
theorem dX2_suitsBetter_70 : decode cX2_suitsBetter 70 = .ok (.ireturn, 1) := by decide +kernel
theorem dX2_dropBookings_0 : decode cX2_dropBookings 0 = .ok (.iconst 0, 1) := by decide +kernel
theorem dX2_dropBookings_1 : decode cX2_dropBookings 1 = .ok (.istore_n 1, 1) := by decide +kernel
theorem dX2_dropBookings_2 : decode cX2_dropBookings 2 = .ok (.iload_n 1, 1) := by decide +kernel
theorem dX2_dropBookings_3 : decode cX2_dropBookings 3 = .ok (.aload_n 0, 1) := by decide +kernel
theorem dX2_dropBookings_4 : decode cX2_dropBookings 4 = .ok (.getfield 21, 3) := by decide +kernel
theorem dX2_dropBookings_7 : decode cX2_dropBookings 7 = .ok (.invokevirtual 52, 3) := by decide +kernel
theorem dX2_dropBookings_10 : decode cX2_dropBookings 10 = .ok (.if_icmp .ge 24, 3) := by decide +kernel
theorem dX2_dropBookings_13 : decode cX2_dropBookings 13 = .ok (.aload_n 0, 1) := by decide +kernel
theorem dX2_dropBookings_14 : decode cX2_dropBookings 14 = .ok (.getfield 21, 3) := by decide +kernel
theorem dX2_dropBookings_17 : decode cX2_dropBookings 17 = .ok (.iload_n 1, 1) := by decide +kernel
theorem dX2_dropBookings_18 : decode cX2_dropBookings 18 = .ok (.invokevirtual 129, 3) := by decide +kernel
theorem dX2_dropBookings_21 : decode cX2_dropBookings 21 = .ok (.checkcast 82, 3) := by decide +kernel
theorem dX2_dropBookings_24 : decode cX2_dropBookings 24 = .ok (.aconst_null, 1) := by decide +kernel
theorem dX2_dropBookings_25 : decode cX2_dropBookings 25 = .ok (.putfield 94, 3) := by decide +kernel
theorem dX2_dropBookings_28 : decode cX2_dropBookings 28 = .ok (.iinc 1 1, 3) := by decide +kernel
theorem dX2_dropBookings_31 : decode cX2_dropBookings 31 = .ok (.goto (-29), 3) := by decide +kernel
theorem dX2_dropBookings_34 : decode cX2_dropBookings 34 = .ok (.aload_n 0, 1) := by decide +kernel
theorem dX2_dropBookings_35 : decode cX2_dropBookings 35 = .ok (.getfield 21, 3) := by decide +kernel
theorem dX2_dropBookings_38 : decode cX2_dropBookings 38 = .ok (.invokevirtual 311, 3) := by decide +kernel
theorem dX2_dropBookings_41 : decode cX2_dropBookings 41 = .ok (.return_, 1) := by decide +kernel
theorem dX2_passHourOn_0 : decode cX2_passHourOn 0 = .ok (.aload_n 0, 1) := by decide +kernel
theorem dX2_passHourOn_1 : decode cX2_passHourOn 1 = .ok (.aload_n 1, 1) := by decide +kernel
theorem dX2_passHourOn_2 : decode cX2_passHourOn 2 = .ok (.invokevirtual 314, 3) := by decide +kernel
theorem dX2_passHourOn_5 : decode cX2_passHourOn 5 = .ok (.istore_n 2, 1) := by decide +kernel
theorem dX2_passHourOn_6 : decode cX2_passHourOn 6 = .ok (.aload_n 1, 1) := by decide +kernel
theorem dX2_passHourOn_7 : decode cX2_passHourOn 7 = .ok (.iload_n 2, 1) := by decide +kernel
theorem dX2_passHourOn_8 : decode cX2_passHourOn 8 = .ok (.invokevirtual 317, 3) := by decide +kernel
theorem dX2_passHourOn_11 : decode cX2_passHourOn 11 = .ok (.istore_n 3, 1) := by decide +kernel
theorem dX2_passHourOn_12 : decode cX2_passHourOn 12 = .ok (.aload_n 1, 1) := by decide +kernel
theorem dX2_passHourOn_13 : decode cX2_passHourOn 13 = .ok (.iload_n 2, 1) := by decide +kernel
theorem dX2_passHourOn_14 : decode cX2_passHourOn 14 = .ok (.invokevirtual 320, 3) := by decide +kernel
theorem dX2_passHourOn_17 : decode cX2_passHourOn 17 = .ok (.aload_n 0, 1) := by decide +kernel
theorem dX2_passHourOn_18 : decode cX2_passHourOn 18 = .ok (.dup, 1) := by decide +kernel
theorem dX2_passHourOn_19 : decode cX2_passHourOn 19 = .ok (.getfield 35, 3) := by decide +kernel
theorem dX2_passHourOn_22 : decode cX2_passHourOn 22 = .ok (.iload_n 2, 1) := by decide +kernel
theorem dX2_passHourOn_23 : decode cX2_passHourOn 23 = .ok (.aload_n 1, 1) := by decide +kernel
theorem dX2_passHourOn_24 : decode cX2_passHourOn 24 = .ok (.invokevirtual 323, 3) := by decide +kernel
theorem dX2_passHourOn_27 : decode cX2_passHourOn 27 = .ok (.imul, 1) := by decide +kernel
theorem dX2_passHourOn_28 : decode cX2_passHourOn 28 = .ok (.i2l, 1) := by decide +kernel
theorem dX2_passHourOn_29 : decode cX2_passHourOn 29 = .ok (.ladd, 1) := by decide +kernel
theorem dX2_passHourOn_30 : decode cX2_passHourOn 30 = .ok (.putfield 35, 3) := by decide +kernel
theorem dX2_passHourOn_33 : decode cX2_passHourOn 33 = .ok (.iload_n 3, 1) := by decide +kernel
theorem dX2_passHourOn_34 : decode cX2_passHourOn 34 = .ok (.ireturn, 1) := by decide +kernel
theorem dX2_countPeopleIn_0 : decode cX2_countPeopleIn 0 = .ok (.iconst 0, 1) := by decide +kernel
theorem dX2_countPeopleIn_1 : decode cX2_countPeopleIn 1 = .ok (.istore_n 1, 1) := by decide +kernel
theorem dX2_countPeopleIn_2 : decode cX2_countPeopleIn 2 = .ok (.iconst 0, 1) := by decide +kernel
theorem dX2_countPeopleIn_3 : decode cX2_countPeopleIn 3 = .ok (.istore_n 2, 1) := by decide +kernel
theorem dX2_countPeopleIn_4 : decode cX2_countPeopleIn 4 = .ok (.iload_n 2, 1) := by decide +kernel
theorem dX2_countPeopleIn_5 : decode cX2_countPeopleIn 5 = .ok (.aload_n 0, 1) := by decide +kernel
theorem dX2_countPeopleIn_6 : decode cX2_countPeopleIn 6 = .ok (.getfield 18, 3) := by decide +kernel
theorem dX2_countPeopleIn_9 : decode cX2_countPeopleIn 9 = .ok (.invokevirtual 52, 3) := by decide +kernel
theorem dX2_countPeopleIn_12 : decode cX2_countPeopleIn 12 = .ok (.if_icmp .ge 34, 3) := by decide +kernel
theorem dX2_countPeopleIn_15 : decode cX2_countPeopleIn 15 = .ok (.iload_n 1, 1) := by decide +kernel
theorem dX2_countPeopleIn_16 : decode cX2_countPeopleIn 16 = .ok (.aload_n 0, 1) := by decide +kernel
theorem dX2_countPeopleIn_17 : decode cX2_countPeopleIn 17 = .ok (.getfield 18, 3) := by decide +kernel
theorem dX2_countPeopleIn_20 : decode cX2_countPeopleIn 20 = .ok (.iload_n 2, 1) := by decide +kernel
theorem dX2_countPeopleIn_21 : decode cX2_countPeopleIn 21 = .ok (.invokevirtual 129, 3) := by decide +kernel
theorem dX2_countPeopleIn_24 : decode cX2_countPeopleIn 24 = .ok (.checkcast 82, 3) := by decide +kernel
theorem dX2_countPeopleIn_27 : decode cX2_countPeopleIn 27 = .ok (.getfield 180, 3) := by decide +kernel
theorem dX2_countPeopleIn_30 : decode cX2_countPeopleIn 30 = .ok (.ifCond .eq 7, 3) := by decide +kernel
theorem dX2_countPeopleIn_33 : decode cX2_countPeopleIn 33 = .ok (.iconst 1, 1) := by decide +kernel
theorem dX2_countPeopleIn_34 : decode cX2_countPeopleIn 34 = .ok (.goto 4, 3) := by decide +kernel
theorem dX2_countPeopleIn_37 : decode cX2_countPeopleIn 37 = .ok (.iconst 0, 1) := by decide +kernel
theorem dX2_countPeopleIn_38 : decode cX2_countPeopleIn 38 = .ok (.iadd, 1) := by decide +kernel
theorem dX2_countPeopleIn_39 : decode cX2_countPeopleIn 39 = .ok (.istore_n 1, 1) := by decide +kernel
theorem dX2_countPeopleIn_40 : decode cX2_countPeopleIn 40 = .ok (.iinc 2 1, 3) := by decide +kernel
theorem dX2_countPeopleIn_43 : decode cX2_countPeopleIn 43 = .ok (.goto (-39), 3) := by decide +kernel
theorem dX2_countPeopleIn_46 : decode cX2_countPeopleIn 46 = .ok (.iload_n 1, 1) := by decide +kernel
theorem dX2_countPeopleIn_47 : decode cX2_countPeopleIn 47 = .ok (.ireturn, 1) := by decide +kernel
theorem dX2_countSeatsGivenOn_0 : decode cX2_countSeatsGivenOn 0 = .ok (.iconst 0, 1) := by decide +kernel
theorem dX2_countSeatsGivenOn_1 : decode cX2_countSeatsGivenOn 1 = .ok (.istore_n 2, 1) := by decide +kernel
theorem dX2_countSeatsGivenOn_2 : decode cX2_countSeatsGivenOn 2 = .ok (.iconst 0, 1) := by decide +kernel
theorem dX2_countSeatsGivenOn_3 : decode cX2_countSeatsGivenOn 3 = .ok (.istore_n 3, 1) := by decide +kernel
theorem dX2_countSeatsGivenOn_4 : decode cX2_countSeatsGivenOn 4 = .ok (.iload_n 3, 1) := by decide +kernel
theorem dX2_countSeatsGivenOn_5 : decode cX2_countSeatsGivenOn 5 = .ok (.aload_n 0, 1) := by decide +kernel
theorem dX2_countSeatsGivenOn_6 : decode cX2_countSeatsGivenOn 6 = .ok (.getfield 18, 3) := by decide +kernel
theorem dX2_countSeatsGivenOn_9 : decode cX2_countSeatsGivenOn 9 = .ok (.invokevirtual 52, 3) := by decide +kernel
theorem dX2_countSeatsGivenOn_12 : decode cX2_countSeatsGivenOn 12 = .ok (.if_icmp .ge 35, 3) := by decide +kernel
theorem dX2_countSeatsGivenOn_15 : decode cX2_countSeatsGivenOn 15 = .ok (.iload_n 2, 1) := by decide +kernel
theorem dX2_countSeatsGivenOn_16 : decode cX2_countSeatsGivenOn 16 = .ok (.aload_n 0, 1) := by decide +kernel
theorem dX2_countSeatsGivenOn_17 : decode cX2_countSeatsGivenOn 17 = .ok (.getfield 18, 3) := by decide +kernel
theorem dX2_countSeatsGivenOn_20 : decode cX2_countSeatsGivenOn 20 = .ok (.iload_n 3, 1) := by decide +kernel
theorem dX2_countSeatsGivenOn_21 : decode cX2_countSeatsGivenOn 21 = .ok (.invokevirtual 129, 3) := by decide +kernel
theorem dX2_countSeatsGivenOn_24 : decode cX2_countSeatsGivenOn 24 = .ok (.checkcast 82, 3) := by decide +kernel
theorem dX2_countSeatsGivenOn_27 : decode cX2_countSeatsGivenOn 27 = .ok (.getfield 175, 3) := by decide +kernel
theorem dX2_countSeatsGivenOn_30 : decode cX2_countSeatsGivenOn 30 = .ok (.aload_n 1, 1) := by decide +kernel
theorem dX2_countSeatsGivenOn_31 : decode cX2_countSeatsGivenOn 31 = .ok (.if_acmp .ne 7, 3) := by decide +kernel
theorem dX2_countSeatsGivenOn_34 : decode cX2_countSeatsGivenOn 34 = .ok (.iconst 1, 1) := by decide +kernel
theorem dX2_countSeatsGivenOn_35 : decode cX2_countSeatsGivenOn 35 = .ok (.goto 4, 3) := by decide +kernel
theorem dX2_countSeatsGivenOn_38 : decode cX2_countSeatsGivenOn 38 = .ok (.iconst 0, 1) := by decide +kernel
theorem dX2_countSeatsGivenOn_39 : decode cX2_countSeatsGivenOn 39 = .ok (.iadd, 1) := by decide +kernel
theorem dX2_countSeatsGivenOn_40 : decode cX2_countSeatsGivenOn 40 = .ok (.istore_n 2, 1) := by decide +kernel
theorem dX2_countSeatsGivenOn_41 : decode cX2_countSeatsGivenOn 41 = .ok (.iinc 3 1, 3) := by decide +kernel
theorem dX2_countSeatsGivenOn_44 : decode cX2_countSeatsGivenOn 44 = .ok (.goto (-40), 3) := by decide +kernel
theorem dX2_countSeatsGivenOn_47 : decode cX2_countSeatsGivenOn 47 = .ok (.iload_n 2, 1) := by decide +kernel
theorem dX2_countSeatsGivenOn_48 : decode cX2_countSeatsGivenOn 48 = .ok (.ireturn, 1) := by decide +kernel
theorem dX2_countTeamOn_0 : decode cX2_countTeamOn 0 = .ok (.iconst 0, 1) := by decide +kernel
theorem dX2_countTeamOn_1 : decode cX2_countTeamOn 1 = .ok (.istore_n 3, 1) := by decide +kernel
theorem dX2_countTeamOn_2 : decode cX2_countTeamOn 2 = .ok (.iconst 0, 1) := by decide +kernel
theorem dX2_countTeamOn_3 : decode cX2_countTeamOn 3 = .ok (.istore 4, 2) := by decide +kernel
theorem dX2_countTeamOn_5 : decode cX2_countTeamOn 5 = .ok (.iload 4, 2) := by decide +kernel
theorem dX2_countTeamOn_7 : decode cX2_countTeamOn 7 = .ok (.aload_n 0, 1) := by decide +kernel
theorem dX2_countTeamOn_8 : decode cX2_countTeamOn 8 = .ok (.getfield 18, 3) := by decide +kernel
theorem dX2_countTeamOn_11 : decode cX2_countTeamOn 11 = .ok (.invokevirtual 52, 3) := by decide +kernel
theorem dX2_countTeamOn_14 : decode cX2_countTeamOn 14 = .ok (.if_icmp .ge 49, 3) := by decide +kernel
theorem dX2_countTeamOn_17 : decode cX2_countTeamOn 17 = .ok (.aload_n 0, 1) := by decide +kernel
theorem dX2_countTeamOn_18 : decode cX2_countTeamOn 18 = .ok (.getfield 18, 3) := by decide +kernel
theorem dX2_countTeamOn_21 : decode cX2_countTeamOn 21 = .ok (.iload 4, 2) := by decide +kernel
theorem dX2_countTeamOn_23 : decode cX2_countTeamOn 23 = .ok (.invokevirtual 129, 3) := by decide +kernel
theorem dX2_countTeamOn_26 : decode cX2_countTeamOn 26 = .ok (.checkcast 82, 3) := by decide +kernel
theorem dX2_countTeamOn_29 : decode cX2_countTeamOn 29 = .ok (.astore 5, 2) := by decide +kernel
theorem dX2_countTeamOn_31 : decode cX2_countTeamOn 31 = .ok (.iload_n 3, 1) := by decide +kernel
theorem dX2_countTeamOn_32 : decode cX2_countTeamOn 32 = .ok (.aload 5, 2) := by decide +kernel
theorem dX2_countTeamOn_34 : decode cX2_countTeamOn 34 = .ok (.getfield 175, 3) := by decide +kernel
theorem dX2_countTeamOn_37 : decode cX2_countTeamOn 37 = .ok (.aload_n 2, 1) := by decide +kernel
theorem dX2_countTeamOn_38 : decode cX2_countTeamOn 38 = .ok (.if_acmp .ne 16, 3) := by decide +kernel
theorem dX2_countTeamOn_41 : decode cX2_countTeamOn 41 = .ok (.aload 5, 2) := by decide +kernel
theorem dX2_countTeamOn_43 : decode cX2_countTeamOn 43 = .ok (.getfield 308, 3) := by decide +kernel
theorem dX2_countTeamOn_46 : decode cX2_countTeamOn 46 = .ok (.iload_n 1, 1) := by decide +kernel
theorem dX2_countTeamOn_47 : decode cX2_countTeamOn 47 = .ok (.if_icmp .ne 7, 3) := by decide +kernel
theorem dX2_countTeamOn_50 : decode cX2_countTeamOn 50 = .ok (.iconst 1, 1) := by decide +kernel
theorem dX2_countTeamOn_51 : decode cX2_countTeamOn 51 = .ok (.goto 4, 3) := by decide +kernel
theorem dX2_countTeamOn_54 : decode cX2_countTeamOn 54 = .ok (.iconst 0, 1) := by decide +kernel
theorem dX2_countTeamOn_55 : decode cX2_countTeamOn 55 = .ok (.iadd, 1) := by decide +kernel
theorem dX2_countTeamOn_56 : decode cX2_countTeamOn 56 = .ok (.istore_n 3, 1) := by decide +kernel
theorem dX2_countTeamOn_57 : decode cX2_countTeamOn 57 = .ok (.iinc 4 1, 3) := by decide +kernel
theorem dX2_countTeamOn_60 : decode cX2_countTeamOn 60 = .ok (.goto (-55), 3) := by decide +kernel
theorem dX2_countTeamOn_63 : decode cX2_countTeamOn 63 = .ok (.iload_n 3, 1) := by decide +kernel
theorem dX2_countTeamOn_64 : decode cX2_countTeamOn 64 = .ok (.ireturn, 1) := by decide +kernel
theorem dX2_countPresentOn_0 : decode cX2_countPresentOn 0 = .ok (.iconst 0, 1) := by decide +kernel
theorem dX2_countPresentOn_1 : decode cX2_countPresentOn 1 = .ok (.istore_n 2, 1) := by decide +kernel
theorem dX2_countPresentOn_2 : decode cX2_countPresentOn 2 = .ok (.iconst 0, 1) := by decide +kernel
theorem dX2_countPresentOn_3 : decode cX2_countPresentOn 3 = .ok (.istore_n 3, 1) := by decide +kernel
theorem dX2_countPresentOn_4 : decode cX2_countPresentOn 4 = .ok (.iload_n 3, 1) := by decide +kernel
theorem dX2_countPresentOn_5 : decode cX2_countPresentOn 5 = .ok (.aload_n 0, 1) := by decide +kernel
theorem dX2_countPresentOn_6 : decode cX2_countPresentOn 6 = .ok (.getfield 18, 3) := by decide +kernel
theorem dX2_countPresentOn_9 : decode cX2_countPresentOn 9 = .ok (.invokevirtual 52, 3) := by decide +kernel
theorem dX2_countPresentOn_12 : decode cX2_countPresentOn 12 = .ok (.if_icmp .ge 47, 3) := by decide +kernel
theorem dX2_countPresentOn_15 : decode cX2_countPresentOn 15 = .ok (.aload_n 0, 1) := by decide +kernel
theorem dX2_countPresentOn_16 : decode cX2_countPresentOn 16 = .ok (.getfield 18, 3) := by decide +kernel
theorem dX2_countPresentOn_19 : decode cX2_countPresentOn 19 = .ok (.iload_n 3, 1) := by decide +kernel
theorem dX2_countPresentOn_20 : decode cX2_countPresentOn 20 = .ok (.invokevirtual 129, 3) := by decide +kernel
theorem dX2_countPresentOn_23 : decode cX2_countPresentOn 23 = .ok (.checkcast 82, 3) := by decide +kernel
theorem dX2_countPresentOn_26 : decode cX2_countPresentOn 26 = .ok (.astore 4, 2) := by decide +kernel
theorem dX2_countPresentOn_28 : decode cX2_countPresentOn 28 = .ok (.iload_n 2, 1) := by decide +kernel
theorem dX2_countPresentOn_29 : decode cX2_countPresentOn 29 = .ok (.aload 4, 2) := by decide +kernel
theorem dX2_countPresentOn_31 : decode cX2_countPresentOn 31 = .ok (.getfield 175, 3) := by decide +kernel
theorem dX2_countPresentOn_34 : decode cX2_countPresentOn 34 = .ok (.aload_n 1, 1) := by decide +kernel
theorem dX2_countPresentOn_35 : decode cX2_countPresentOn 35 = .ok (.if_acmp .ne 15, 3) := by decide +kernel
theorem dX2_countPresentOn_38 : decode cX2_countPresentOn 38 = .ok (.aload 4, 2) := by decide +kernel
theorem dX2_countPresentOn_40 : decode cX2_countPresentOn 40 = .ok (.getfield 180, 3) := by decide +kernel
theorem dX2_countPresentOn_43 : decode cX2_countPresentOn 43 = .ok (.ifCond .eq 7, 3) := by decide +kernel
theorem dX2_countPresentOn_46 : decode cX2_countPresentOn 46 = .ok (.iconst 1, 1) := by decide +kernel
theorem dX2_countPresentOn_47 : decode cX2_countPresentOn 47 = .ok (.goto 4, 3) := by decide +kernel
theorem dX2_countPresentOn_50 : decode cX2_countPresentOn 50 = .ok (.iconst 0, 1) := by decide +kernel
theorem dX2_countPresentOn_51 : decode cX2_countPresentOn 51 = .ok (.iadd, 1) := by decide +kernel
theorem dX2_countPresentOn_52 : decode cX2_countPresentOn 52 = .ok (.istore_n 2, 1) := by decide +kernel
theorem dX2_countPresentOn_53 : decode cX2_countPresentOn 53 = .ok (.iinc 3 1, 3) := by decide +kernel
theorem dX2_countPresentOn_56 : decode cX2_countPresentOn 56 = .ok (.goto (-52), 3) := by decide +kernel
theorem dX2_countPresentOn_59 : decode cX2_countPresentOn 59 = .ok (.iload_n 2, 1) := by decide +kernel
theorem dX2_countPresentOn_60 : decode cX2_countPresentOn 60 = .ok (.ireturn, 1) := by decide +kernel
theorem dX2_countGuestsOf_0 : decode cX2_countGuestsOf 0 = .ok (.iconst 0, 1) := by decide +kernel
theorem dX2_countGuestsOf_1 : decode cX2_countGuestsOf 1 = .ok (.istore_n 2, 1) := by decide +kernel
theorem dX2_countGuestsOf_2 : decode cX2_countGuestsOf 2 = .ok (.iconst 0, 1) := by decide +kernel
theorem dX2_countGuestsOf_3 : decode cX2_countGuestsOf 3 = .ok (.istore_n 3, 1) := by decide +kernel
theorem dX2_countGuestsOf_4 : decode cX2_countGuestsOf 4 = .ok (.iload_n 3, 1) := by decide +kernel
theorem dX2_countGuestsOf_5 : decode cX2_countGuestsOf 5 = .ok (.aload_n 0, 1) := by decide +kernel
theorem dX2_countGuestsOf_6 : decode cX2_countGuestsOf 6 = .ok (.getfield 18, 3) := by decide +kernel
theorem dX2_countGuestsOf_9 : decode cX2_countGuestsOf 9 = .ok (.invokevirtual 52, 3) := by decide +kernel
theorem dX2_countGuestsOf_12 : decode cX2_countGuestsOf 12 = .ok (.if_icmp .ge 47, 3) := by decide +kernel
theorem dX2_countGuestsOf_15 : decode cX2_countGuestsOf 15 = .ok (.aload_n 0, 1) := by decide +kernel
theorem dX2_countGuestsOf_16 : decode cX2_countGuestsOf 16 = .ok (.getfield 18, 3) := by decide +kernel
theorem dX2_countGuestsOf_19 : decode cX2_countGuestsOf 19 = .ok (.iload_n 3, 1) := by decide +kernel
theorem dX2_countGuestsOf_20 : decode cX2_countGuestsOf 20 = .ok (.invokevirtual 129, 3) := by decide +kernel
theorem dX2_countGuestsOf_23 : decode cX2_countGuestsOf 23 = .ok (.checkcast 82, 3) := by decide +kernel
theorem dX2_countGuestsOf_26 : decode cX2_countGuestsOf 26 = .ok (.astore 4, 2) := by decide +kernel
theorem dX2_countGuestsOf_28 : decode cX2_countGuestsOf 28 = .ok (.iload_n 2, 1) := by decide +kernel
theorem dX2_countGuestsOf_29 : decode cX2_countGuestsOf 29 = .ok (.aload 4, 2) := by decide +kernel
theorem dX2_countGuestsOf_31 : decode cX2_countGuestsOf 31 = .ok (.getfield 175, 3) := by decide +kernel
theorem dX2_countGuestsOf_34 : decode cX2_countGuestsOf 34 = .ok (.aload_n 1, 1) := by decide +kernel
theorem dX2_countGuestsOf_35 : decode cX2_countGuestsOf 35 = .ok (.if_acmp .ne 15, 3) := by decide +kernel
theorem dX2_countGuestsOf_38 : decode cX2_countGuestsOf 38 = .ok (.aload 4, 2) := by decide +kernel
theorem dX2_countGuestsOf_40 : decode cX2_countGuestsOf 40 = .ok (.getfield 186, 3) := by decide +kernel
theorem dX2_countGuestsOf_43 : decode cX2_countGuestsOf 43 = .ok (.ifCond .eq 7, 3) := by decide +kernel
theorem dX2_countGuestsOf_46 : decode cX2_countGuestsOf 46 = .ok (.iconst 1, 1) := by decide +kernel
theorem dX2_countGuestsOf_47 : decode cX2_countGuestsOf 47 = .ok (.goto 4, 3) := by decide +kernel
theorem dX2_countGuestsOf_50 : decode cX2_countGuestsOf 50 = .ok (.iconst 0, 1) := by decide +kernel
theorem dX2_countGuestsOf_51 : decode cX2_countGuestsOf 51 = .ok (.iadd, 1) := by decide +kernel
theorem dX2_countGuestsOf_52 : decode cX2_countGuestsOf 52 = .ok (.istore_n 2, 1) := by decide +kernel
theorem dX2_countGuestsOf_53 : decode cX2_countGuestsOf 53 = .ok (.iinc 3 1, 3) := by decide +kernel
theorem dX2_countGuestsOf_56 : decode cX2_countGuestsOf 56 = .ok (.goto (-52), 3) := by decide +kernel
theorem dX2_countGuestsOf_59 : decode cX2_countGuestsOf 59 = .ok (.iload_n 2, 1) := by decide +kernel
theorem dX2_countGuestsOf_60 : decode cX2_countGuestsOf 60 = .ok (.ireturn, 1) := by decide +kernel
theorem dX2_peopleAreSound_0 : decode cX2_peopleAreSound 0 = .ok (.iconst 0, 1) := by decide +kernel
theorem dX2_peopleAreSound_1 : decode cX2_peopleAreSound 1 = .ok (.istore_n 1, 1) := by decide +kernel
theorem dX2_peopleAreSound_2 : decode cX2_peopleAreSound 2 = .ok (.iload_n 1, 1) := by decide +kernel
theorem dX2_peopleAreSound_3 : decode cX2_peopleAreSound 3 = .ok (.aload_n 0, 1) := by decide +kernel
theorem dX2_peopleAreSound_4 : decode cX2_peopleAreSound 4 = .ok (.getfield 18, 3) := by decide +kernel
theorem dX2_peopleAreSound_7 : decode cX2_peopleAreSound 7 = .ok (.invokevirtual 52, 3) := by decide +kernel
theorem dX2_peopleAreSound_10 : decode cX2_peopleAreSound 10 = .ok (.if_icmp .ge 58, 3) := by decide +kernel
theorem dX2_peopleAreSound_13 : decode cX2_peopleAreSound 13 = .ok (.aload_n 0, 1) := by decide +kernel
theorem dX2_peopleAreSound_14 : decode cX2_peopleAreSound 14 = .ok (.getfield 18, 3) := by decide +kernel
theorem dX2_peopleAreSound_17 : decode cX2_peopleAreSound 17 = .ok (.iload_n 1, 1) := by decide +kernel
theorem dX2_peopleAreSound_18 : decode cX2_peopleAreSound 18 = .ok (.invokevirtual 129, 3) := by decide +kernel
theorem dX2_peopleAreSound_21 : decode cX2_peopleAreSound 21 = .ok (.checkcast 82, 3) := by decide +kernel
theorem dX2_peopleAreSound_24 : decode cX2_peopleAreSound 24 = .ok (.astore_n 2, 1) := by decide +kernel
theorem dX2_peopleAreSound_25 : decode cX2_peopleAreSound 25 = .ok (.aload_n 2, 1) := by decide +kernel
theorem dX2_peopleAreSound_26 : decode cX2_peopleAreSound 26 = .ok (.getfield 175, 3) := by decide +kernel
theorem dX2_peopleAreSound_29 : decode cX2_peopleAreSound 29 = .ok (.astore_n 3, 1) := by decide +kernel
theorem dX2_peopleAreSound_30 : decode cX2_peopleAreSound 30 = .ok (.aload_n 3, 1) := by decide +kernel
theorem dX2_peopleAreSound_31 : decode cX2_peopleAreSound 31 = .ok (.ifnonnull 18, 3) := by decide +kernel
theorem dX2_peopleAreSound_34 : decode cX2_peopleAreSound 34 = .ok (.aload_n 2, 1) := by decide +kernel
theorem dX2_peopleAreSound_35 : decode cX2_peopleAreSound 35 = .ok (.getfield 180, 3) := by decide +kernel
theorem dX2_peopleAreSound_38 : decode cX2_peopleAreSound 38 = .ok (.ifCond .ne 7, 3) := by decide +kernel
theorem dX2_peopleAreSound_41 : decode cX2_peopleAreSound 41 = .ok (.iconst 1, 1) := by decide +kernel
theorem dX2_peopleAreSound_42 : decode cX2_peopleAreSound 42 = .ok (.goto 11, 3) := by decide +kernel
theorem dX2_peopleAreSound_45 : decode cX2_peopleAreSound 45 = .ok (.iconst 0, 1) := by decide +kernel
theorem dX2_peopleAreSound_46 : decode cX2_peopleAreSound 46 = .ok (.goto 7, 3) := by decide +kernel
theorem dX2_peopleAreSound_49 : decode cX2_peopleAreSound 49 = .ok (.aload_n 3, 1) := by decide +kernel
theorem dX2_peopleAreSound_50 : decode cX2_peopleAreSound 50 = .ok (.getfield 194, 3) := by decide +kernel
theorem dX2_peopleAreSound_53 : decode cX2_peopleAreSound 53 = .ok (.istore 4, 2) := by decide +kernel
theorem dX2_peopleAreSound_55 : decode cX2_peopleAreSound 55 = .ok (.iload 4, 2) := by decide +kernel
theorem dX2_peopleAreSound_57 : decode cX2_peopleAreSound 57 = .ok (.ifCond .ne 5, 3) := by decide +kernel
theorem dX2_peopleAreSound_60 : decode cX2_peopleAreSound 60 = .ok (.iconst 0, 1) := by decide +kernel
theorem dX2_peopleAreSound_61 : decode cX2_peopleAreSound 61 = .ok (.ireturn, 1) := by decide +kernel
theorem dX2_peopleAreSound_62 : decode cX2_peopleAreSound 62 = .ok (.iinc 1 1, 3) := by decide +kernel
theorem dX2_peopleAreSound_65 : decode cX2_peopleAreSound 65 = .ok (.goto (-63), 3) := by decide +kernel
theorem dX2_peopleAreSound_68 : decode cX2_peopleAreSound 68 = .ok (.iconst 1, 1) := by decide +kernel
theorem dX2_peopleAreSound_69 : decode cX2_peopleAreSound 69 = .ok (.ireturn, 1) := by decide +kernel
theorem dX2_floorsAreSound_0 : decode cX2_floorsAreSound 0 = .ok (.iconst 0, 1) := by decide +kernel
theorem dX2_floorsAreSound_1 : decode cX2_floorsAreSound 1 = .ok (.istore_n 1, 1) := by decide +kernel
theorem dX2_floorsAreSound_2 : decode cX2_floorsAreSound 2 = .ok (.iload_n 1, 1) := by decide +kernel
theorem dX2_floorsAreSound_3 : decode cX2_floorsAreSound 3 = .ok (.aload_n 0, 1) := by decide +kernel
theorem dX2_floorsAreSound_4 : decode cX2_floorsAreSound 4 = .ok (.getfield 12, 3) := by decide +kernel
theorem dX2_floorsAreSound_7 : decode cX2_floorsAreSound 7 = .ok (.invokevirtual 52, 3) := by decide +kernel
theorem dX2_floorsAreSound_10 : decode cX2_floorsAreSound 10 = .ok (.if_icmp .ge 35, 3) := by decide +kernel
theorem dX2_floorsAreSound_13 : decode cX2_floorsAreSound 13 = .ok (.aload_n 0, 1) := by decide +kernel
theorem dX2_floorsAreSound_14 : decode cX2_floorsAreSound 14 = .ok (.getfield 12, 3) := by decide +kernel
theorem dX2_floorsAreSound_17 : decode cX2_floorsAreSound 17 = .ok (.iload_n 1, 1) := by decide +kernel
theorem dX2_floorsAreSound_18 : decode cX2_floorsAreSound 18 = .ok (.invokevirtual 129, 3) := by decide +kernel
theorem dX2_floorsAreSound_21 : decode cX2_floorsAreSound 21 = .ok (.checkcast 61, 3) := by decide +kernel
theorem dX2_floorsAreSound_24 : decode cX2_floorsAreSound 24 = .ok (.astore_n 2, 1) := by decide +kernel
theorem dX2_floorsAreSound_25 : decode cX2_floorsAreSound 25 = .ok (.aload_n 0, 1) := by decide +kernel
theorem dX2_floorsAreSound_26 : decode cX2_floorsAreSound 26 = .ok (.aload_n 2, 1) := by decide +kernel
theorem dX2_floorsAreSound_27 : decode cX2_floorsAreSound 27 = .ok (.invokevirtual 222, 3) := by decide +kernel
theorem dX2_floorsAreSound_30 : decode cX2_floorsAreSound 30 = .ok (.aload_n 2, 1) := by decide +kernel
theorem dX2_floorsAreSound_31 : decode cX2_floorsAreSound 31 = .ok (.getfield 225, 3) := by decide +kernel
theorem dX2_floorsAreSound_34 : decode cX2_floorsAreSound 34 = .ok (.if_icmp .le 5, 3) := by decide +kernel
theorem dX2_floorsAreSound_37 : decode cX2_floorsAreSound 37 = .ok (.iconst 0, 1) := by decide +kernel
theorem dX2_floorsAreSound_38 : decode cX2_floorsAreSound 38 = .ok (.ireturn, 1) := by decide +kernel
theorem dX2_floorsAreSound_39 : decode cX2_floorsAreSound 39 = .ok (.iinc 1 1, 3) := by decide +kernel
theorem dX2_floorsAreSound_42 : decode cX2_floorsAreSound 42 = .ok (.goto (-40), 3) := by decide +kernel
theorem dX2_floorsAreSound_45 : decode cX2_floorsAreSound 45 = .ok (.iconst 1, 1) := by decide +kernel
theorem dX2_floorsAreSound_46 : decode cX2_floorsAreSound 46 = .ok (.ireturn, 1) := by decide +kernel
theorem dX3_init_0 : decode cX3_init 0 = .ok (.aload_n 0, 1) := by decide +kernel
theorem dX3_init_1 : decode cX3_init 1 = .ok (.invokespecial 1, 3) := by decide +kernel
theorem dX3_init_4 : decode cX3_init 4 = .ok (.aload_n 0, 1) := by decide +kernel
theorem dX3_init_5 : decode cX3_init 5 = .ok (.bipush 6, 2) := by decide +kernel
theorem dX3_init_7 : decode cX3_init 7 = .ok (.newarray .int, 2) := by decide +kernel
theorem dX3_init_9 : decode cX3_init 9 = .ok (.putfield 7, 3) := by decide +kernel
theorem dX3_init_12 : decode cX3_init 12 = .ok (.aload_n 0, 1) := by decide +kernel
theorem dX3_init_13 : decode cX3_init 13 = .ok (.bipush 6, 2) := by decide +kernel
theorem dX3_init_15 : decode cX3_init 15 = .ok (.newarray .int, 2) := by decide +kernel
theorem dX3_init_17 : decode cX3_init 17 = .ok (.putfield 13, 3) := by decide +kernel
theorem dX3_init_20 : decode cX3_init 20 = .ok (.aload_n 0, 1) := by decide +kernel
theorem dX3_init_21 : decode cX3_init 21 = .ok (.bipush 6, 2) := by decide +kernel
theorem dX3_init_23 : decode cX3_init 23 = .ok (.newarray .int, 2) := by decide +kernel
theorem dX3_init_25 : decode cX3_init 25 = .ok (.putfield 16, 3) := by decide +kernel
theorem dX3_init_28 : decode cX3_init 28 = .ok (.aload_n 0, 1) := by decide +kernel
theorem dX3_init_29 : decode cX3_init 29 = .ok (.bipush 6, 2) := by decide +kernel
theorem dX3_init_31 : decode cX3_init 31 = .ok (.newarray .int, 2) := by decide +kernel
theorem dX3_init_33 : decode cX3_init 33 = .ok (.putfield 19, 3) := by decide +kernel
theorem dX3_init_36 : decode cX3_init 36 = .ok (.aload_n 0, 1) := by decide +kernel
theorem dX3_init_37 : decode cX3_init 37 = .ok (.bipush 6, 2) := by decide +kernel
theorem dX3_init_39 : decode cX3_init 39 = .ok (.newarray .boolean, 2) := by decide +kernel
theorem dX3_init_41 : decode cX3_init 41 = .ok (.putfield 22, 3) := by decide +kernel
theorem dX3_init_44 : decode cX3_init 44 = .ok (.aload_n 0, 1) := by decide +kernel
theorem dX3_init_45 : decode cX3_init 45 = .ok (.bipush 12, 2) := by decide +kernel
theorem dX3_init_47 : decode cX3_init 47 = .ok (.newarray .int, 2) := by decide +kernel
theorem dX3_init_49 : decode cX3_init 49 = .ok (.putfield 26, 3) := by decide +kernel
theorem dX3_init_52 : decode cX3_init 52 = .ok (.aload_n 0, 1) := by decide +kernel
theorem dX3_init_53 : decode cX3_init 53 = .ok (.bipush 12, 2) := by decide +kernel
theorem dX3_init_55 : decode cX3_init 55 = .ok (.newarray .int, 2) := by decide +kernel
theorem dX3_init_57 : decode cX3_init 57 = .ok (.putfield 29, 3) := by decide +kernel
theorem dX3_init_60 : decode cX3_init 60 = .ok (.aload_n 0, 1) := by decide +kernel
theorem dX3_init_61 : decode cX3_init 61 = .ok (.bipush 12, 2) := by decide +kernel
theorem dX3_init_63 : decode cX3_init 63 = .ok (.newarray .int, 2) := by decide +kernel
theorem dX3_init_65 : decode cX3_init 65 = .ok (.putfield 32, 3) := by decide +kernel
theorem dX3_init_68 : decode cX3_init 68 = .ok (.aload_n 0, 1) := by decide +kernel
theorem dX3_init_69 : decode cX3_init 69 = .ok (.bipush 12, 2) := by decide +kernel
theorem dX3_init_71 : decode cX3_init 71 = .ok (.newarray .boolean, 2) := by decide +kernel
theorem dX3_init_73 : decode cX3_init 73 = .ok (.putfield 35, 3) := by decide +kernel
theorem dX3_init_76 : decode cX3_init 76 = .ok (.aload_n 0, 1) := by decide +kernel
theorem dX3_init_77 : decode cX3_init 77 = .ok (.bipush 12, 2) := by decide +kernel
theorem dX3_init_79 : decode cX3_init 79 = .ok (.newarray .boolean, 2) := by decide +kernel
theorem dX3_init_81 : decode cX3_init 81 = .ok (.putfield 38, 3) := by decide +kernel
theorem dX3_init_84 : decode cX3_init 84 = .ok (.aload_n 0, 1) := by decide +kernel
theorem dX3_init_85 : decode cX3_init 85 = .ok (.bipush 12, 2) := by decide +kernel
theorem dX3_init_87 : decode cX3_init 87 = .ok (.newarray .boolean, 2) := by decide +kernel
theorem dX3_init_89 : decode cX3_init 89 = .ok (.putfield 41, 3) := by decide +kernel
theorem dX3_init_92 : decode cX3_init 92 = .ok (.aload_n 0, 1) := by decide +kernel
theorem dX3_init_93 : decode cX3_init 93 = .ok (.bipush 12, 2) := by decide +kernel
theorem dX3_init_95 : decode cX3_init 95 = .ok (.newarray .int, 2) := by decide +kernel
theorem dX3_init_97 : decode cX3_init 97 = .ok (.putfield 44, 3) := by decide +kernel
theorem dX3_init_100 : decode cX3_init 100 = .ok (.aload_n 0, 1) := by decide +kernel
theorem dX3_init_101 : decode cX3_init 101 = .ok (.bipush 12, 2) := by decide +kernel
theorem dX3_init_103 : decode cX3_init 103 = .ok (.newarray .int, 2) := by decide +kernel
theorem dX3_init_105 : decode cX3_init 105 = .ok (.putfield 47, 3) := by decide +kernel
theorem dX3_init_108 : decode cX3_init 108 = .ok (.return_, 1) := by decide +kernel
theorem dX3_thrown_0 : decode cX3_thrown 0 = .ok (.aload_n 0, 1) := by decide +kernel
theorem dX3_thrown_1 : decode cX3_thrown 1 = .ok (.getfield 50, 3) := by decide +kernel
theorem dX3_thrown_4 : decode cX3_thrown 4 = .ok (.ireturn, 1) := by decide +kernel
theorem dX3_in_0 : decode cX3_in 0 = .ok (.iload_n 0, 1) := by decide +kernel
theorem dX3_in_1 : decode cX3_in 1 = .ok (.iload_n 1, 1) := by decide +kernel
theorem dX3_in_2 : decode cX3_in 2 = .ok (.if_icmp .lt 12, 3) := by decide +kernel
theorem dX3_in_5 : decode cX3_in 5 = .ok (.iload_n 0, 1) := by decide +kernel
theorem dX3_in_6 : decode cX3_in 6 = .ok (.iload_n 2, 1) := by decide +kernel
theorem dX3_in_7 : decode cX3_in 7 = .ok (.if_icmp .gt 7, 3) := by decide +kernel
theorem dX3_in_10 : decode cX3_in 10 = .ok (.iconst 1, 1) := by decide +kernel
theorem dX3_in_11 : decode cX3_in 11 = .ok (.goto 4, 3) := by decide +kernel
theorem dX3_in_14 : decode cX3_in 14 = .ok (.iconst 0, 1) := by decide +kernel
theorem dX3_in_15 : decode cX3_in 15 = .ok (.ireturn, 1) := by decide +kernel
theorem dX3_fails_0 : decode cX3_fails 0 = .ok (.aload_n 0, 1) := by decide +kernel
theorem dX3_fails_1 : decode cX3_fails 1 = .ok (.iload_n 1, 1) := by decide +kernel
theorem dX3_fails_2 : decode cX3_fails 2 = .ok (.putfield 50, 3) := by decide +kernel
theorem dX3_fails_5 : decode cX3_fails 5 = .ok (.iconst 0, 1) := by decide +kernel
theorem dX3_fails_6 : decode cX3_fails 6 = .ok (.ireturn, 1) := by decide +kernel
theorem dX3_tells_0 : decode cX3_tells 0 = .ok (.aload_n 0, 1) := by decide +kernel
theorem dX3_tells_1 : decode cX3_tells 1 = .ok (.iconst 0, 1) := by decide +kernel
theorem dX3_tells_2 : decode cX3_tells 2 = .ok (.putfield 50, 3) := by decide +kernel
theorem dX3_tells_5 : decode cX3_tells 5 = .ok (.iload_n 1, 1) := by decide +kernel
theorem dX3_tells_6 : decode cX3_tells 6 = .ok (.ireturn, 1) := by decide +kernel
theorem dX3_asks_0 : decode cX3_asks 0 = .ok (.aload_n 0, 1) := by decide +kernel
theorem dX3_asks_1 : decode cX3_asks 1 = .ok (.iload_n 1, 1) := by decide +kernel
theorem dX3_asks_2 : decode cX3_asks 2 = .ok (.putfield 50, 3) := by decide +kernel
theorem dX3_asks_5 : decode cX3_asks 5 = .ok (.iload_n 1, 1) := by decide +kernel
theorem dX3_asks_6 : decode cX3_asks 6 = .ok (.ifCond .ne 11, 3) := by decide +kernel
theorem dX3_asks_9 : decode cX3_asks 9 = .ok (.iload_n 2, 1) := by decide +kernel
theorem dX3_asks_10 : decode cX3_asks 10 = .ok (.ifCond .eq 7, 3) := by decide +kernel
theorem dX3_asks_13 : decode cX3_asks 13 = .ok (.iconst 1, 1) := by decide +kernel
theorem dX3_asks_14 : decode cX3_asks 14 = .ok (.goto 4, 3) := by decide +kernel
theorem dX3_asks_17 : decode cX3_asks 17 = .ok (.iconst 0, 1) := by decide +kernel
theorem dX3_asks_18 : decode cX3_asks 18 = .ok (.ireturn, 1) := by decide +kernel
theorem dX3_isFloor_0 : decode cX3_isFloor 0 = .ok (.iload_n 1, 1) := by decide +kernel
theorem dX3_isFloor_1 : decode cX3_isFloor 1 = .ok (.iconst 0, 1) := by decide +kernel
theorem dX3_isFloor_2 : decode cX3_isFloor 2 = .ok (.aload_n 0, 1) := by decide +kernel
theorem dX3_isFloor_3 : decode cX3_isFloor 3 = .ok (.getfield 54, 3) := by decide +kernel
theorem dX3_isFloor_6 : decode cX3_isFloor 6 = .ok (.iconst 1, 1) := by decide +kernel
theorem dX3_isFloor_7 : decode cX3_isFloor 7 = .ok (.isub, 1) := by decide +kernel
theorem dX3_isFloor_8 : decode cX3_isFloor 8 = .ok (.invokestatic 57, 3) := by decide +kernel
theorem dX3_isFloor_11 : decode cX3_isFloor 11 = .ok (.ireturn, 1) := by decide +kernel
theorem dX3_isPerson_0 : decode cX3_isPerson 0 = .ok (.iload_n 1, 1) := by decide +kernel
theorem dX3_isPerson_1 : decode cX3_isPerson 1 = .ok (.iconst 0, 1) := by decide +kernel
theorem dX3_isPerson_2 : decode cX3_isPerson 2 = .ok (.aload_n 0, 1) := by decide +kernel
theorem dX3_isPerson_3 : decode cX3_isPerson 3 = .ok (.getfield 61, 3) := by decide +kernel
theorem dX3_isPerson_6 : decode cX3_isPerson 6 = .ok (.iconst 1, 1) := by decide +kernel
theorem dX3_isPerson_7 : decode cX3_isPerson 7 = .ok (.isub, 1) := by decide +kernel
theorem dX3_isPerson_8 : decode cX3_isPerson 8 = .ok (.invokestatic 57, 3) := by decide +kernel
theorem dX3_isPerson_11 : decode cX3_isPerson 11 = .ok (.ireturn, 1) := by decide +kernel
theorem dX3_addFloor_0 : decode cX3_addFloor 0 = .ok (.iload_n 1, 1) := by decide +kernel
theorem dX3_addFloor_1 : decode cX3_addFloor 1 = .ok (.iconst 1, 1) := by decide +kernel
theorem dX3_addFloor_2 : decode cX3_addFloor 2 = .ok (.bipush 12, 2) := by decide +kernel
theorem dX3_addFloor_4 : decode cX3_addFloor 4 = .ok (.invokestatic 57, 3) := by decide +kernel
theorem dX3_addFloor_7 : decode cX3_addFloor 7 = .ok (.ifCond .eq 13, 3) := by decide +kernel
theorem dX3_addFloor_10 : decode cX3_addFloor 10 = .ok (.iload_n 2, 1) := by decide +kernel
theorem dX3_addFloor_11 : decode cX3_addFloor 11 = .ok (.iconst 0, 1) := by decide +kernel
theorem dX3_addFloor_12 : decode cX3_addFloor 12 = .ok (.bipush 99, 2) := by decide +kernel
theorem dX3_addFloor_14 : decode cX3_addFloor 14 = .ok (.invokestatic 57, 3) := by decide +kernel
theorem dX3_addFloor_17 : decode cX3_addFloor 17 = .ok (.ifCond .ne 9, 3) := by decide +kernel
theorem dX3_addFloor_20 : decode cX3_addFloor 20 = .ok (.aload_n 0, 1) := by decide +kernel
theorem dX3_addFloor_21 : decode cX3_addFloor 21 = .ok (.iconst 1, 1) := by decide +kernel
theorem dX3_addFloor_22 : decode cX3_addFloor 22 = .ok (.invokevirtual 64, 3) := by decide +kernel
theorem dX3_addFloor_25 : decode cX3_addFloor 25 = .ok (.ireturn, 1) := by decide +kernel
theorem dX3_addFloor_26 : decode cX3_addFloor 26 = .ok (.aload_n 0, 1) := by decide +kernel
theorem dX3_addFloor_27 : decode cX3_addFloor 27 = .ok (.getfield 54, 3) := by decide +kernel
theorem dX3_addFloor_30 : decode cX3_addFloor 30 = .ok (.bipush 6, 2) := by decide +kernel
theorem dX3_addFloor_32 : decode cX3_addFloor 32 = .ok (.if_icmp .ne 9, 3) := by decide +kernel
theorem dX3_addFloor_35 : decode cX3_addFloor 35 = .ok (.aload_n 0, 1) := by decide +kernel
theorem dX3_addFloor_36 : decode cX3_addFloor 36 = .ok (.iconst 2, 1) := by decide +kernel
theorem dX3_addFloor_37 : decode cX3_addFloor 37 = .ok (.invokevirtual 64, 3) := by decide +kernel
theorem dX3_addFloor_40 : decode cX3_addFloor 40 = .ok (.ireturn, 1) := by decide +kernel
theorem dX3_addFloor_41 : decode cX3_addFloor 41 = .ok (.aload_n 0, 1) := by decide +kernel
theorem dX3_addFloor_42 : decode cX3_addFloor 42 = .ok (.getfield 7, 3) := by decide +kernel
theorem dX3_addFloor_45 : decode cX3_addFloor 45 = .ok (.aload_n 0, 1) := by decide +kernel
theorem dX3_addFloor_46 : decode cX3_addFloor 46 = .ok (.getfield 54, 3) := by decide +kernel
theorem dX3_addFloor_49 : decode cX3_addFloor 49 = .ok (.iload_n 1, 1) := by decide +kernel
theorem dX3_addFloor_50 : decode cX3_addFloor 50 = .ok (.iastore, 1) := by decide +kernel
theorem dX3_addFloor_51 : decode cX3_addFloor 51 = .ok (.aload_n 0, 1) := by decide +kernel
theorem dX3_addFloor_52 : decode cX3_addFloor 52 = .ok (.getfield 13, 3) := by decide +kernel
theorem dX3_addFloor_55 : decode cX3_addFloor 55 = .ok (.aload_n 0, 1) := by decide +kernel
theorem dX3_addFloor_56 : decode cX3_addFloor 56 = .ok (.getfield 54, 3) := by decide +kernel
theorem dX3_addFloor_59 : decode cX3_addFloor 59 = .ok (.iload_n 2, 1) := by decide +kernel
theorem dX3_addFloor_60 : decode cX3_addFloor 60 = .ok (.iastore, 1) := by decide +kernel
theorem dX3_addFloor_61 : decode cX3_addFloor 61 = .ok (.aload_n 0, 1) := by decide +kernel
theorem dX3_addFloor_62 : decode cX3_addFloor 62 = .ok (.getfield 16, 3) := by decide +kernel
theorem dX3_addFloor_65 : decode cX3_addFloor 65 = .ok (.aload_n 0, 1) := by decide +kernel
theorem dX3_addFloor_66 : decode cX3_addFloor 66 = .ok (.getfield 54, 3) := by decide +kernel
theorem dX3_addFloor_69 : decode cX3_addFloor 69 = .ok (.sipush 180, 3) := by decide +kernel
theorem dX3_addFloor_72 : decode cX3_addFloor 72 = .ok (.iastore, 1) := by decide +kernel
theorem dX3_addFloor_73 : decode cX3_addFloor 73 = .ok (.aload_n 0, 1) := by decide +kernel
theorem dX3_addFloor_74 : decode cX3_addFloor 74 = .ok (.getfield 19, 3) := by decide +kernel
theorem dX3_addFloor_77 : decode cX3_addFloor 77 = .ok (.aload_n 0, 1) := by decide +kernel
theorem dX3_addFloor_78 : decode cX3_addFloor 78 = .ok (.getfield 54, 3) := by decide +kernel
theorem dX3_addFloor_81 : decode cX3_addFloor 81 = .ok (.sipush 400, 3) := by decide +kernel
theorem dX3_addFloor_84 : decode cX3_addFloor 84 = .ok (.iastore, 1) := by decide +kernel
theorem dX3_addFloor_85 : decode cX3_addFloor 85 = .ok (.aload_n 0, 1) := by decide +kernel
theorem dX3_addFloor_86 : decode cX3_addFloor 86 = .ok (.dup, 1) := by decide +kernel
theorem dX3_addFloor_87 : decode cX3_addFloor 87 = .ok (.getfield 54, 3) := by decide +kernel
theorem dX3_addFloor_90 : decode cX3_addFloor 90 = .ok (.iconst 1, 1) := by decide +kernel
theorem dX3_addFloor_91 : decode cX3_addFloor 91 = .ok (.iadd, 1) := by decide +kernel
theorem dX3_addFloor_92 : decode cX3_addFloor 92 = .ok (.putfield 54, 3) := by decide +kernel
theorem dX3_addFloor_95 : decode cX3_addFloor 95 = .ok (.aload_n 0, 1) := by decide +kernel
theorem dX3_addFloor_96 : decode cX3_addFloor 96 = .ok (.aload_n 0, 1) := by decide +kernel
theorem dX3_addFloor_97 : decode cX3_addFloor 97 = .ok (.getfield 54, 3) := by decide +kernel
theorem dX3_addFloor_100 : decode cX3_addFloor 100 = .ok (.iconst 1, 1) := by decide +kernel
theorem dX3_addFloor_101 : decode cX3_addFloor 101 = .ok (.isub, 1) := by decide +kernel
theorem dX3_addFloor_102 : decode cX3_addFloor 102 = .ok (.invokevirtual 68, 3) := by decide +kernel
theorem dX3_addFloor_105 : decode cX3_addFloor 105 = .ok (.ireturn, 1) := by decide +kernel
theorem dX3_setCost_0 : decode cX3_setCost 0 = .ok (.aload_n 0, 1) := by decide +kernel
theorem dX3_setCost_1 : decode cX3_setCost 1 = .ok (.iload_n 1, 1) := by decide +kernel
theorem dX3_setCost_2 : decode cX3_setCost 2 = .ok (.invokevirtual 71, 3) := by decide +kernel
theorem dX3_setCost_5 : decode cX3_setCost 5 = .ok (.ifCond .ne 9, 3) := by decide +kernel
theorem dX3_setCost_8 : decode cX3_setCost 8 = .ok (.aload_n 0, 1) := by decide +kernel
theorem dX3_setCost_9 : decode cX3_setCost 9 = .ok (.iconst 1, 1) := by decide +kernel
theorem dX3_setCost_10 : decode cX3_setCost 10 = .ok (.invokevirtual 64, 3) := by decide +kernel
theorem dX3_setCost_13 : decode cX3_setCost 13 = .ok (.ireturn, 1) := by decide +kernel
theorem dX3_setCost_14 : decode cX3_setCost 14 = .ok (.iload_n 2, 1) := by decide +kernel
theorem dX3_setCost_15 : decode cX3_setCost 15 = .ok (.iconst 0, 1) := by decide +kernel
theorem dX3_setCost_16 : decode cX3_setCost 16 = .ok (.bipush 99, 2) := by decide +kernel
theorem dX3_setCost_18 : decode cX3_setCost 18 = .ok (.invokestatic 57, 3) := by decide +kernel
theorem dX3_setCost_21 : decode cX3_setCost 21 = .ok (.ifCond .ne 9, 3) := by decide +kernel
theorem dX3_setCost_24 : decode cX3_setCost 24 = .ok (.aload_n 0, 1) := by decide +kernel
theorem dX3_setCost_25 : decode cX3_setCost 25 = .ok (.iconst 2, 1) := by decide +kernel
theorem dX3_setCost_26 : decode cX3_setCost 26 = .ok (.invokevirtual 64, 3) := by decide +kernel
theorem dX3_setCost_29 : decode cX3_setCost 29 = .ok (.ireturn, 1) := by decide +kernel
theorem dX3_setCost_30 : decode cX3_setCost 30 = .ok (.aload_n 0, 1) := by decide +kernel
theorem dX3_setCost_31 : decode cX3_setCost 31 = .ok (.getfield 13, 3) := by decide +kernel
theorem dX3_setCost_34 : decode cX3_setCost 34 = .ok (.iload_n 1, 1) := by decide +kernel
theorem dX3_setCost_35 : decode cX3_setCost 35 = .ok (.iaload, 1) := by decide +kernel
theorem dX3_setCost_36 : decode cX3_setCost 36 = .ok (.istore_n 3, 1) := by decide +kernel
theorem dX3_setCost_37 : decode cX3_setCost 37 = .ok (.aload_n 0, 1) := by decide +kernel
theorem dX3_setCost_38 : decode cX3_setCost 38 = .ok (.getfield 13, 3) := by decide +kernel
theorem dX3_setCost_41 : decode cX3_setCost 41 = .ok (.iload_n 1, 1) := by decide +kernel
theorem dX3_setCost_42 : decode cX3_setCost 42 = .ok (.iload_n 2, 1) := by decide +kernel
theorem dX3_setCost_43 : decode cX3_setCost 43 = .ok (.iastore, 1) := by decide +kernel
theorem dX3_setCost_44 : decode cX3_setCost 44 = .ok (.aload_n 0, 1) := by decide +kernel
theorem dX3_setCost_45 : decode cX3_setCost 45 = .ok (.iload_n 3, 1) := by decide +kernel
theorem dX3_setCost_46 : decode cX3_setCost 46 = .ok (.invokevirtual 68, 3) := by decide +kernel
theorem dX3_setCost_49 : decode cX3_setCost 49 = .ok (.ireturn, 1) := by decide +kernel
theorem dX3_addPerson_0 : decode cX3_addPerson 0 = .ok (.iload_n 1, 1) := by decide +kernel
theorem dX3_addPerson_1 : decode cX3_addPerson 1 = .ok (.iconst 0, 1) := by decide +kernel
theorem dX3_addPerson_2 : decode cX3_addPerson 2 = .ok (.iconst 3, 1) := by decide +kernel
theorem dX3_addPerson_3 : decode cX3_addPerson 3 = .ok (.invokestatic 57, 3) := by decide +kernel
theorem dX3_addPerson_6 : decode cX3_addPerson 6 = .ok (.ifCond .ne 9, 3) := by decide +kernel
theorem dX3_addPerson_9 : decode cX3_addPerson 9 = .ok (.aload_n 0, 1) := by decide +kernel
theorem dX3_addPerson_10 : decode cX3_addPerson 10 = .ok (.iconst 1, 1) := by decide +kernel
theorem dX3_addPerson_11 : decode cX3_addPerson 11 = .ok (.invokevirtual 64, 3) := by decide +kernel
theorem dX3_addPerson_14 : decode cX3_addPerson 14 = .ok (.ireturn, 1) := by decide +kernel
theorem dX3_addPerson_15 : decode cX3_addPerson 15 = .ok (.aload_n 0, 1) := by decide +kernel
theorem dX3_addPerson_16 : decode cX3_addPerson 16 = .ok (.getfield 61, 3) := by decide +kernel
theorem dX3_addPerson_19 : decode cX3_addPerson 19 = .ok (.bipush 12, 2) := by decide +kernel
theorem dX3_addPerson_21 : decode cX3_addPerson 21 = .ok (.if_icmp .ne 9, 3) := by decide +kernel
theorem dX3_addPerson_24 : decode cX3_addPerson 24 = .ok (.aload_n 0, 1) := by decide +kernel
theorem dX3_addPerson_25 : decode cX3_addPerson 25 = .ok (.iconst 2, 1) := by decide +kernel
theorem dX3_addPerson_26 : decode cX3_addPerson 26 = .ok (.invokevirtual 64, 3) := by decide +kernel
theorem dX3_addPerson_29 : decode cX3_addPerson 29 = .ok (.ireturn, 1) := by decide +kernel
theorem dX3_addPerson_30 : decode cX3_addPerson 30 = .ok (.aload_n 0, 1) := by decide +kernel
theorem dX3_addPerson_31 : decode cX3_addPerson 31 = .ok (.getfield 26, 3) := by decide +kernel
theorem dX3_addPerson_34 : decode cX3_addPerson 34 = .ok (.aload_n 0, 1) := by decide +kernel
theorem dX3_addPerson_35 : decode cX3_addPerson 35 = .ok (.getfield 61, 3) := by decide +kernel
theorem dX3_addPerson_38 : decode cX3_addPerson 38 = .ok (.iload_n 1, 1) := by decide +kernel
theorem dX3_addPerson_39 : decode cX3_addPerson 39 = .ok (.iastore, 1) := by decide +kernel
theorem dX3_addPerson_40 : decode cX3_addPerson 40 = .ok (.aload_n 0, 1) := by decide +kernel
theorem dX3_addPerson_41 : decode cX3_addPerson 41 = .ok (.getfield 29, 3) := by decide +kernel
theorem dX3_addPerson_44 : decode cX3_addPerson 44 = .ok (.aload_n 0, 1) := by decide +kernel
theorem dX3_addPerson_45 : decode cX3_addPerson 45 = .ok (.getfield 61, 3) := by decide +kernel
theorem dX3_addPerson_48 : decode cX3_addPerson 48 = .ok (.iconst 5, 1) := by decide +kernel
theorem dX3_addPerson_49 : decode cX3_addPerson 49 = .ok (.iastore, 1) := by decide +kernel
theorem dX3_addPerson_50 : decode cX3_addPerson 50 = .ok (.aload_n 0, 1) := by decide +kernel
theorem dX3_addPerson_51 : decode cX3_addPerson 51 = .ok (.getfield 32, 3) := by decide +kernel
theorem dX3_addPerson_54 : decode cX3_addPerson 54 = .ok (.aload_n 0, 1) := by decide +kernel
theorem dX3_addPerson_55 : decode cX3_addPerson 55 = .ok (.getfield 61, 3) := by decide +kernel
theorem dX3_addPerson_58 : decode cX3_addPerson 58 = .ok (.iconst (-1), 1) := by decide +kernel
theorem dX3_addPerson_59 : decode cX3_addPerson 59 = .ok (.iastore, 1) := by decide +kernel
theorem dX3_addPerson_60 : decode cX3_addPerson 60 = .ok (.aload_n 0, 1) := by decide +kernel
theorem dX3_addPerson_61 : decode cX3_addPerson 61 = .ok (.dup, 1) := by decide +kernel
theorem dX3_addPerson_62 : decode cX3_addPerson 62 = .ok (.getfield 61, 3) := by decide +kernel
theorem dX3_addPerson_65 : decode cX3_addPerson 65 = .ok (.iconst 1, 1) := by decide +kernel
theorem dX3_addPerson_66 : decode cX3_addPerson 66 = .ok (.iadd, 1) := by decide +kernel
theorem dX3_addPerson_67 : decode cX3_addPerson 67 = .ok (.putfield 61, 3) := by decide +kernel
theorem dX3_addPerson_70 : decode cX3_addPerson 70 = .ok (.aload_n 0, 1) := by decide +kernel
theorem dX3_addPerson_71 : decode cX3_addPerson 71 = .ok (.aload_n 0, 1) := by decide +kernel
theorem dX3_addPerson_72 : decode cX3_addPerson 72 = .ok (.getfield 61, 3) := by decide +kernel
theorem dX3_addPerson_75 : decode cX3_addPerson 75 = .ok (.iconst 1, 1) := by decide +kernel
theorem dX3_addPerson_76 : decode cX3_addPerson 76 = .ok (.isub, 1) := by decide +kernel
theorem dX3_addPerson_77 : decode cX3_addPerson 77 = .ok (.invokevirtual 68, 3) := by decide +kernel
theorem dX3_addPerson_80 : decode cX3_addPerson 80 = .ok (.ireturn, 1) := by decide +kernel
theorem dX3_standing_0 : decode cX3_standing 0 = .ok (.aload_n 0, 1) := by decide +kernel
theorem dX3_standing_1 : decode cX3_standing 1 = .ok (.iload_n 1, 1) := by decide +kernel
theorem dX3_standing_2 : decode cX3_standing 2 = .ok (.invokevirtual 75, 3) := by decide +kernel
theorem dX3_standing_5 : decode cX3_standing 5 = .ok (.ifCond .eq 16, 3) := by decide +kernel
theorem dX3_standing_8 : decode cX3_standing 8 = .ok (.aload_n 0, 1) := by decide +kernel
theorem dX3_standing_9 : decode cX3_standing 9 = .ok (.aload_n 0, 1) := by decide +kernel
theorem dX3_standing_10 : decode cX3_standing 10 = .ok (.getfield 29, 3) := by decide +kernel
theorem dX3_standing_13 : decode cX3_standing 13 = .ok (.iload_n 1, 1) := by decide +kernel
theorem dX3_standing_14 : decode cX3_standing 14 = .ok (.iaload, 1) := by decide +kernel
theorem dX3_standing_15 : decode cX3_standing 15 = .ok (.invokevirtual 68, 3) := by decide +kernel
theorem dX3_standing_18 : decode cX3_standing 18 = .ok (.goto 8, 3) := by decide +kernel
theorem dX3_standing_21 : decode cX3_standing 21 = .ok (.aload_n 0, 1) := by decide +kernel
theorem dX3_standing_22 : decode cX3_standing 22 = .ok (.iconst 1, 1) := by decide +kernel
theorem dX3_standing_23 : decode cX3_standing 23 = .ok (.invokevirtual 64, 3) := by decide +kernel
theorem dX3_standing_26 : decode cX3_standing 26 = .ok (.ireturn, 1) := by decide +kernel
theorem dX3_bookingOf_0 : decode cX3_bookingOf 0 = .ok (.iconst 0, 1) := by decide +kernel
theorem dX3_bookingOf_1 : decode cX3_bookingOf 1 = .ok (.istore_n 2, 1) := by decide +kernel
theorem dX3_bookingOf_2 : decode cX3_bookingOf 2 = .ok (.iload_n 2, 1) := by decide +kernel
theorem dX3_bookingOf_3 : decode cX3_bookingOf 3 = .ok (.aload_n 0, 1) := by decide +kernel
theorem dX3_bookingOf_4 : decode cX3_bookingOf 4 = .ok (.getfield 78, 3) := by decide +kernel
theorem dX3_bookingOf_7 : decode cX3_bookingOf 7 = .ok (.if_icmp .ge 21, 3) := by decide +kernel
theorem dX3_bookingOf_10 : decode cX3_bookingOf 10 = .ok (.aload_n 0, 1) := by decide +kernel
theorem dX3_bookingOf_11 : decode cX3_bookingOf 11 = .ok (.getfield 44, 3) := by decide +kernel
theorem dX3_bookingOf_14 : decode cX3_bookingOf 14 = .ok (.iload_n 2, 1) := by decide +kernel
theorem dX3_bookingOf_15 : decode cX3_bookingOf 15 = .ok (.iaload, 1) := by decide +kernel
theorem dX3_bookingOf_16 : decode cX3_bookingOf 16 = .ok (.iload_n 1, 1) := by decide +kernel
theorem dX3_bookingOf_17 : decode cX3_bookingOf 17 = .ok (.if_icmp .ne 5, 3) := by decide +kernel
theorem dX3_bookingOf_20 : decode cX3_bookingOf 20 = .ok (.iload_n 2, 1) := by decide +kernel
theorem dX3_bookingOf_21 : decode cX3_bookingOf 21 = .ok (.ireturn, 1) := by decide +kernel
theorem dX3_bookingOf_22 : decode cX3_bookingOf 22 = .ok (.iinc 2 1, 3) := by decide +kernel
theorem dX3_bookingOf_25 : decode cX3_bookingOf 25 = .ok (.goto (-23), 3) := by decide +kernel
theorem dX3_bookingOf_28 : decode cX3_bookingOf 28 = .ok (.iconst (-1), 1) := by decide +kernel
theorem dX3_bookingOf_29 : decode cX3_bookingOf 29 = .ok (.ireturn, 1) := by decide +kernel
theorem dX3_seatsIn_0 : decode cX3_seatsIn 0 = .ok (.iconst 0, 1) := by decide +kernel
theorem dX3_seatsIn_1 : decode cX3_seatsIn 1 = .ok (.istore_n 2, 1) := by decide +kernel
theorem dX3_seatsIn_2 : decode cX3_seatsIn 2 = .ok (.iconst 0, 1) := by decide +kernel
theorem dX3_seatsIn_3 : decode cX3_seatsIn 3 = .ok (.istore_n 3, 1) := by decide +kernel
theorem dX3_seatsIn_4 : decode cX3_seatsIn 4 = .ok (.iload_n 3, 1) := by decide +kernel
theorem dX3_seatsIn_5 : decode cX3_seatsIn 5 = .ok (.aload_n 0, 1) := by decide +kernel
theorem dX3_seatsIn_6 : decode cX3_seatsIn 6 = .ok (.getfield 54, 3) := by decide +kernel
theorem dX3_seatsIn_9 : decode cX3_seatsIn 9 = .ok (.if_icmp .ge 31, 3) := by decide +kernel
theorem dX3_seatsIn_12 : decode cX3_seatsIn 12 = .ok (.iload_n 2, 1) := by decide +kernel
theorem dX3_seatsIn_13 : decode cX3_seatsIn 13 = .ok (.iload_n 1, 1) := by decide +kernel
theorem dX3_seatsIn_14 : decode cX3_seatsIn 14 = .ok (.iload_n 3, 1) := by decide +kernel
theorem dX3_seatsIn_15 : decode cX3_seatsIn 15 = .ok (.ishr, 1) := by decide +kernel
theorem dX3_seatsIn_16 : decode cX3_seatsIn 16 = .ok (.iconst 1, 1) := by decide +kernel
theorem dX3_seatsIn_17 : decode cX3_seatsIn 17 = .ok (.iand, 1) := by decide +kernel
theorem dX3_seatsIn_18 : decode cX3_seatsIn 18 = .ok (.iconst 1, 1) := by decide +kernel
theorem dX3_seatsIn_19 : decode cX3_seatsIn 19 = .ok (.if_icmp .ne 12, 3) := by decide +kernel
theorem dX3_seatsIn_22 : decode cX3_seatsIn 22 = .ok (.aload_n 0, 1) := by decide +kernel
theorem dX3_seatsIn_23 : decode cX3_seatsIn 23 = .ok (.getfield 7, 3) := by decide +kernel
theorem dX3_seatsIn_26 : decode cX3_seatsIn 26 = .ok (.iload_n 3, 1) := by decide +kernel
theorem dX3_seatsIn_27 : decode cX3_seatsIn 27 = .ok (.iaload, 1) := by decide +kernel
theorem dX3_seatsIn_28 : decode cX3_seatsIn 28 = .ok (.goto 4, 3) := by decide +kernel
theorem dX3_seatsIn_31 : decode cX3_seatsIn 31 = .ok (.iconst 0, 1) := by decide +kernel
theorem dX3_seatsIn_32 : decode cX3_seatsIn 32 = .ok (.iadd, 1) := by decide +kernel
theorem dX3_seatsIn_33 : decode cX3_seatsIn 33 = .ok (.istore_n 2, 1) := by decide +kernel
theorem dX3_seatsIn_34 : decode cX3_seatsIn 34 = .ok (.iinc 3 1, 3) := by decide +kernel
theorem dX3_seatsIn_37 : decode cX3_seatsIn 37 = .ok (.goto (-33), 3) := by decide +kernel
theorem dX3_seatsIn_40 : decode cX3_seatsIn 40 = .ok (.iload_n 2, 1) := by decide +kernel
theorem dX3_seatsIn_41 : decode cX3_seatsIn 41 = .ok (.ireturn, 1) := by decide +kernel
theorem dX3_book_0 : decode cX3_book 0 = .ok (.aload_n 0, 1) := by decide +kernel
theorem dX3_book_1 : decode cX3_book 1 = .ok (.iload_n 1, 1) := by decide +kernel
theorem dX3_book_2 : decode cX3_book 2 = .ok (.invokevirtual 75, 3) := by decide +kernel
theorem dX3_book_5 : decode cX3_book 5 = .ok (.ifCond .ne 9, 3) := by decide +kernel
theorem dX3_book_8 : decode cX3_book 8 = .ok (.aload_n 0, 1) := by decide +kernel
theorem dX3_book_9 : decode cX3_book 9 = .ok (.iconst 1, 1) := by decide +kernel
theorem dX3_book_10 : decode cX3_book 10 = .ok (.invokevirtual 64, 3) := by decide +kernel
theorem dX3_book_13 : decode cX3_book 13 = .ok (.ireturn, 1) := by decide +kernel
theorem dX3_book_14 : decode cX3_book 14 = .ok (.aload_n 0, 1) := by decide +kernel
theorem dX3_book_15 : decode cX3_book 15 = .ok (.iload_n 2, 1) := by decide +kernel
theorem dX3_book_16 : decode cX3_book 16 = .ok (.invokevirtual 71, 3) := by decide +kernel
theorem dX3_book_19 : decode cX3_book 19 = .ok (.ifCond .ne 9, 3) := by decide +kernel
theorem dX3_book_22 : decode cX3_book 22 = .ok (.aload_n 0, 1) := by decide +kernel
theorem dX3_book_23 : decode cX3_book 23 = .ok (.iconst 2, 1) := by decide +kernel
theorem dX3_book_24 : decode cX3_book 24 = .ok (.invokevirtual 64, 3) := by decide +kernel
theorem dX3_book_27 : decode cX3_book 27 = .ok (.ireturn, 1) := by decide +kernel
theorem dX3_book_28 : decode cX3_book 28 = .ok (.aload_n 0, 1) := by decide +kernel
theorem dX3_book_29 : decode cX3_book 29 = .ok (.iload_n 1, 1) := by decide +kernel
theorem dX3_book_30 : decode cX3_book 30 = .ok (.invokevirtual 81, 3) := by decide +kernel
theorem dX3_book_33 : decode cX3_book 33 = .ok (.iconst (-1), 1) := by decide +kernel
theorem dX3_book_34 : decode cX3_book 34 = .ok (.if_icmp .eq 9, 3) := by decide +kernel
theorem dX3_book_37 : decode cX3_book 37 = .ok (.aload_n 0, 1) := by decide +kernel
theorem dX3_book_38 : decode cX3_book 38 = .ok (.iconst 3, 1) := by decide +kernel
theorem dX3_book_39 : decode cX3_book 39 = .ok (.invokevirtual 64, 3) := by decide +kernel
theorem dX3_book_42 : decode cX3_book 42 = .ok (.ireturn, 1) := by decide +kernel
theorem dX3_book_43 : decode cX3_book 43 = .ok (.aload_n 0, 1) := by decide +kernel
theorem dX3_book_44 : decode cX3_book 44 = .ok (.getfield 78, 3) := by decide +kernel
theorem dX3_book_47 : decode cX3_book 47 = .ok (.aload_n 0, 1) := by decide +kernel
theorem dX3_book_48 : decode cX3_book 48 = .ok (.bipush 63, 2) := by decide +kernel
theorem dX3_book_50 : decode cX3_book 50 = .ok (.invokevirtual 84, 3) := by decide +kernel
theorem dX3_book_53 : decode cX3_book 53 = .ok (.if_icmp .lt 9, 3) := by decide +kernel
theorem dX3_book_56 : decode cX3_book 56 = .ok (.aload_n 0, 1) := by decide +kernel
theorem dX3_book_57 : decode cX3_book 57 = .ok (.iconst 4, 1) := by decide +kernel
theorem dX3_book_58 : decode cX3_book 58 = .ok (.invokevirtual 64, 3) := by decide +kernel
theorem dX3_book_61 : decode cX3_book 61 = .ok (.ireturn, 1) := by decide +kernel
theorem dX3_book_62 : decode cX3_book 62 = .ok (.aload_n 0, 1) := by decide +kernel
theorem dX3_book_63 : decode cX3_book 63 = .ok (.getfield 44, 3) := by decide +kernel
theorem dX3_book_66 : decode cX3_book 66 = .ok (.aload_n 0, 1) := by decide +kernel
theorem dX3_book_67 : decode cX3_book 67 = .ok (.getfield 78, 3) := by decide +kernel
theorem dX3_book_70 : decode cX3_book 70 = .ok (.iload_n 1, 1) := by decide +kernel
theorem dX3_book_71 : decode cX3_book 71 = .ok (.iastore, 1) := by decide +kernel
theorem dX3_book_72 : decode cX3_book 72 = .ok (.aload_n 0, 1) := by decide +kernel
theorem dX3_book_73 : decode cX3_book 73 = .ok (.getfield 47, 3) := by decide +kernel
theorem dX3_book_76 : decode cX3_book 76 = .ok (.aload_n 0, 1) := by decide +kernel
theorem dX3_book_77 : decode cX3_book 77 = .ok (.getfield 78, 3) := by decide +kernel
theorem dX3_book_80 : decode cX3_book 80 = .ok (.iload_n 2, 1) := by decide +kernel
theorem dX3_book_81 : decode cX3_book 81 = .ok (.iastore, 1) := by decide +kernel
theorem dX3_book_82 : decode cX3_book 82 = .ok (.aload_n 0, 1) := by decide +kernel
theorem dX3_book_83 : decode cX3_book 83 = .ok (.dup, 1) := by decide +kernel
theorem dX3_book_84 : decode cX3_book 84 = .ok (.getfield 78, 3) := by decide +kernel
theorem dX3_book_87 : decode cX3_book 87 = .ok (.iconst 1, 1) := by decide +kernel
theorem dX3_book_88 : decode cX3_book 88 = .ok (.iadd, 1) := by decide +kernel
theorem dX3_book_89 : decode cX3_book 89 = .ok (.putfield 78, 3) := by decide +kernel
theorem dX3_book_92 : decode cX3_book 92 = .ok (.aload_n 0, 1) := by decide +kernel
theorem dX3_book_93 : decode cX3_book 93 = .ok (.aload_n 0, 1) := by decide +kernel
theorem dX3_book_94 : decode cX3_book 94 = .ok (.getfield 78, 3) := by decide +kernel
theorem dX3_book_97 : decode cX3_book 97 = .ok (.invokevirtual 68, 3) := by decide +kernel
theorem dX3_book_100 : decode cX3_book 100 = .ok (.ireturn, 1) := by decide +kernel
theorem dX3_cancel_0 : decode cX3_cancel 0 = .ok (.aload_n 0, 1) := by decide +kernel
theorem dX3_cancel_1 : decode cX3_cancel 1 = .ok (.iload_n 1, 1) := by decide +kernel
theorem dX3_cancel_2 : decode cX3_cancel 2 = .ok (.invokevirtual 75, 3) := by decide +kernel
theorem dX3_cancel_5 : decode cX3_cancel 5 = .ok (.ifCond .eq 11, 3) := by decide +kernel
theorem dX3_cancel_8 : decode cX3_cancel 8 = .ok (.aload_n 0, 1) := by decide +kernel
theorem dX3_cancel_9 : decode cX3_cancel 9 = .ok (.iload_n 1, 1) := by decide +kernel
theorem dX3_cancel_10 : decode cX3_cancel 10 = .ok (.invokevirtual 81, 3) := by decide +kernel
theorem dX3_cancel_13 : decode cX3_cancel 13 = .ok (.goto 4, 3) := by decide +kernel
theorem dX3_cancel_16 : decode cX3_cancel 16 = .ok (.iconst (-1), 1) := by decide +kernel
theorem dX3_cancel_17 : decode cX3_cancel 17 = .ok (.istore_n 2, 1) := by decide +kernel
theorem dX3_cancel_18 : decode cX3_cancel 18 = .ok (.iload_n 2, 1) := by decide +kernel
theorem dX3_cancel_19 : decode cX3_cancel 19 = .ok (.iconst (-1), 1) := by decide +kernel
theorem dX3_cancel_20 : decode cX3_cancel 20 = .ok (.if_icmp .ne 9, 3) := by decide +kernel
theorem dX3_cancel_23 : decode cX3_cancel 23 = .ok (.aload_n 0, 1) := by decide +kernel
theorem dX3_cancel_24 : decode cX3_cancel 24 = .ok (.iconst 1, 1) := by decide +kernel
theorem dX3_cancel_25 : decode cX3_cancel 25 = .ok (.invokevirtual 64, 3) := by decide +kernel
theorem dX3_cancel_28 : decode cX3_cancel 28 = .ok (.ireturn, 1) := by decide +kernel
theorem dX3_cancel_29 : decode cX3_cancel 29 = .ok (.aload_n 0, 1) := by decide +kernel
theorem dX3_cancel_30 : decode cX3_cancel 30 = .ok (.getfield 47, 3) := by decide +kernel
theorem dX3_cancel_33 : decode cX3_cancel 33 = .ok (.iload_n 2, 1) := by decide +kernel
theorem dX3_cancel_34 : decode cX3_cancel 34 = .ok (.iaload, 1) := by decide +kernel
theorem dX3_cancel_35 : decode cX3_cancel 35 = .ok (.istore_n 3, 1) := by decide +kernel
theorem dX3_cancel_36 : decode cX3_cancel 36 = .ok (.aload_n 0, 1) := by decide +kernel
theorem dX3_cancel_37 : decode cX3_cancel 37 = .ok (.dup, 1) := by decide +kernel
theorem dX3_cancel_38 : decode cX3_cancel 38 = .ok (.getfield 78, 3) := by decide +kernel
theorem dX3_cancel_41 : decode cX3_cancel 41 = .ok (.iconst 1, 1) := by decide +kernel
theorem dX3_cancel_42 : decode cX3_cancel 42 = .ok (.isub, 1) := by decide +kernel
theorem dX3_cancel_43 : decode cX3_cancel 43 = .ok (.putfield 78, 3) := by decide +kernel
theorem dX3_cancel_46 : decode cX3_cancel 46 = .ok (.iload_n 2, 1) := by decide +kernel
theorem dX3_cancel_47 : decode cX3_cancel 47 = .ok (.istore 4, 2) := by decide +kernel
theorem dX3_cancel_49 : decode cX3_cancel 49 = .ok (.iload 4, 2) := by decide +kernel
theorem dX3_cancel_51 : decode cX3_cancel 51 = .ok (.aload_n 0, 1) := by decide +kernel
theorem dX3_cancel_52 : decode cX3_cancel 52 = .ok (.getfield 78, 3) := by decide +kernel
theorem dX3_cancel_55 : decode cX3_cancel 55 = .ok (.if_icmp .ge 41, 3) := by decide +kernel
theorem dX3_cancel_58 : decode cX3_cancel 58 = .ok (.aload_n 0, 1) := by decide +kernel
theorem dX3_cancel_59 : decode cX3_cancel 59 = .ok (.getfield 44, 3) := by decide +kernel
theorem dX3_cancel_62 : decode cX3_cancel 62 = .ok (.iload 4, 2) := by decide +kernel
theorem dX3_cancel_64 : decode cX3_cancel 64 = .ok (.aload_n 0, 1) := by decide +kernel
theorem dX3_cancel_65 : decode cX3_cancel 65 = .ok (.getfield 44, 3) := by decide +kernel
theorem dX3_cancel_68 : decode cX3_cancel 68 = .ok (.iload 4, 2) := by decide +kernel
theorem dX3_cancel_70 : decode cX3_cancel 70 = .ok (.iconst 1, 1) := by decide +kernel
theorem dX3_cancel_71 : decode cX3_cancel 71 = .ok (.iadd, 1) := by decide +kernel
theorem dX3_cancel_72 : decode cX3_cancel 72 = .ok (.iaload, 1) := by decide +kernel
theorem dX3_cancel_73 : decode cX3_cancel 73 = .ok (.iastore, 1) := by decide +kernel
theorem dX3_cancel_74 : decode cX3_cancel 74 = .ok (.aload_n 0, 1) := by decide +kernel
theorem dX3_cancel_75 : decode cX3_cancel 75 = .ok (.getfield 47, 3) := by decide +kernel
theorem dX3_cancel_78 : decode cX3_cancel 78 = .ok (.iload 4, 2) := by decide +kernel
theorem dX3_cancel_80 : decode cX3_cancel 80 = .ok (.aload_n 0, 1) := by decide +kernel
theorem dX3_cancel_81 : decode cX3_cancel 81 = .ok (.getfield 47, 3) := by decide +kernel
theorem dX3_cancel_84 : decode cX3_cancel 84 = .ok (.iload 4, 2) := by decide +kernel
theorem dX3_cancel_86 : decode cX3_cancel 86 = .ok (.iconst 1, 1) := by decide +kernel
theorem dX3_cancel_87 : decode cX3_cancel 87 = .ok (.iadd, 1) := by decide +kernel
theorem dX3_cancel_88 : decode cX3_cancel 88 = .ok (.iaload, 1) := by decide +kernel
theorem dX3_cancel_89 : decode cX3_cancel 89 = .ok (.iastore, 1) := by decide +kernel
theorem dX3_cancel_90 : decode cX3_cancel 90 = .ok (.iinc 4 1, 3) := by decide +kernel
theorem dX3_cancel_93 : decode cX3_cancel 93 = .ok (.goto (-44), 3) := by decide +kernel
theorem dX3_cancel_96 : decode cX3_cancel 96 = .ok (.aload_n 0, 1) := by decide +kernel
theorem dX3_cancel_97 : decode cX3_cancel 97 = .ok (.iload_n 3, 1) := by decide +kernel
theorem dX3_cancel_98 : decode cX3_cancel 98 = .ok (.invokevirtual 68, 3) := by decide +kernel
theorem dX3_cancel_101 : decode cX3_cancel 101 = .ok (.ireturn, 1) := by decide +kernel
theorem dX3_bookings_0 : decode cX3_bookings 0 = .ok (.aload_n 0, 1) := by decide +kernel
theorem dX3_bookings_1 : decode cX3_bookings 1 = .ok (.aload_n 0, 1) := by decide +kernel
theorem dX3_bookings_2 : decode cX3_bookings 2 = .ok (.getfield 78, 3) := by decide +kernel
theorem dX3_bookings_5 : decode cX3_bookings 5 = .ok (.invokevirtual 68, 3) := by decide +kernel
theorem dX3_bookings_8 : decode cX3_bookings 8 = .ok (.ireturn, 1) := by decide +kernel
theorem dX3_bookingAt_0 : decode cX3_bookingAt 0 = .ok (.iload_n 1, 1) := by decide +kernel
theorem dX3_bookingAt_1 : decode cX3_bookingAt 1 = .ok (.iconst 0, 1) := by decide +kernel
theorem dX3_bookingAt_2 : decode cX3_bookingAt 2 = .ok (.aload_n 0, 1) := by decide +kernel
theorem dX3_bookingAt_3 : decode cX3_bookingAt 3 = .ok (.getfield 78, 3) := by decide +kernel
theorem dX3_bookingAt_6 : decode cX3_bookingAt 6 = .ok (.iconst 1, 1) := by decide +kernel
theorem dX3_bookingAt_7 : decode cX3_bookingAt 7 = .ok (.isub, 1) := by decide +kernel
theorem dX3_bookingAt_8 : decode cX3_bookingAt 8 = .ok (.invokestatic 57, 3) := by decide +kernel
theorem dX3_bookingAt_11 : decode cX3_bookingAt 11 = .ok (.ifCond .eq 16, 3) := by decide +kernel
theorem dX3_bookingAt_14 : decode cX3_bookingAt 14 = .ok (.aload_n 0, 1) := by decide +kernel
theorem dX3_bookingAt_15 : decode cX3_bookingAt 15 = .ok (.aload_n 0, 1) := by decide +kernel
theorem dX3_bookingAt_16 : decode cX3_bookingAt 16 = .ok (.getfield 44, 3) := by decide +kernel
theorem dX3_bookingAt_19 : decode cX3_bookingAt 19 = .ok (.iload_n 1, 1) := by decide +kernel
theorem dX3_bookingAt_20 : decode cX3_bookingAt 20 = .ok (.iaload, 1) := by decide +kernel
theorem dX3_bookingAt_21 : decode cX3_bookingAt 21 = .ok (.invokevirtual 68, 3) := by decide +kernel
theorem dX3_bookingAt_24 : decode cX3_bookingAt 24 = .ok (.goto 8, 3) := by decide +kernel
theorem dX3_bookingAt_27 : decode cX3_bookingAt 27 = .ok (.aload_n 0, 1) := by decide +kernel
theorem dX3_bookingAt_28 : decode cX3_bookingAt 28 = .ok (.iconst 1, 1) := by decide +kernel
theorem dX3_bookingAt_29 : decode cX3_bookingAt 29 = .ok (.invokevirtual 64, 3) := by decide +kernel
theorem dX3_bookingAt_32 : decode cX3_bookingAt 32 = .ok (.ireturn, 1) := by decide +kernel
theorem dX3_apart_0 : decode cX3_apart 0 = .ok (.iload_n 0, 1) := by decide +kernel
theorem dX3_apart_1 : decode cX3_apart 1 = .ok (.iload_n 1, 1) := by decide +kernel
theorem dX3_apart_2 : decode cX3_apart 2 = .ok (.if_icmp .le 9, 3) := by decide +kernel
theorem dX3_apart_5 : decode cX3_apart 5 = .ok (.iload_n 0, 1) := by decide +kernel
theorem dX3_apart_6 : decode cX3_apart 6 = .ok (.iload_n 1, 1) := by decide +kernel
theorem dX3_apart_7 : decode cX3_apart 7 = .ok (.isub, 1) := by decide +kernel
theorem dX3_apart_8 : decode cX3_apart 8 = .ok (.goto 6, 3) := by decide +kernel
theorem dX3_apart_11 : decode cX3_apart 11 = .ok (.iload_n 1, 1) := by decide +kernel
theorem dX3_apart_12 : decode cX3_apart 12 = .ok (.iload_n 0, 1) := by decide +kernel
theorem dX3_apart_13 : decode cX3_apart 13 = .ok (.isub, 1) := by decide +kernel
theorem dX3_apart_14 : decode cX3_apart 14 = .ok (.ireturn, 1) := by decide +kernel
theorem dX3_fits_0 : decode cX3_fits 0 = .ok (.aload_n 0, 1) := by decide +kernel
theorem dX3_fits_1 : decode cX3_fits 1 = .ok (.iload_n 1, 1) := by decide +kernel
theorem dX3_fits_2 : decode cX3_fits 2 = .ok (.invokevirtual 84, 3) := by decide +kernel
theorem dX3_fits_5 : decode cX3_fits 5 = .ok (.aload_n 0, 1) := by decide +kernel
theorem dX3_fits_6 : decode cX3_fits 6 = .ok (.getfield 78, 3) := by decide +kernel
theorem dX3_fits_9 : decode cX3_fits 9 = .ok (.if_icmp .lt 18, 3) := by decide +kernel
theorem dX3_fits_12 : decode cX3_fits 12 = .ok (.aload_n 0, 1) := by decide +kernel
theorem dX3_fits_13 : decode cX3_fits 13 = .ok (.getfield 78, 3) := by decide +kernel
theorem dX3_fits_16 : decode cX3_fits 16 = .ok (.ifCond .eq 7, 3) := by decide +kernel
theorem dX3_fits_19 : decode cX3_fits 19 = .ok (.iload_n 1, 1) := by decide +kernel
theorem dX3_fits_20 : decode cX3_fits 20 = .ok (.ifCond .le 7, 3) := by decide +kernel
theorem dX3_fits_23 : decode cX3_fits 23 = .ok (.iconst 1, 1) := by decide +kernel
theorem dX3_fits_24 : decode cX3_fits 24 = .ok (.goto 4, 3) := by decide +kernel
theorem dX3_fits_27 : decode cX3_fits 27 = .ok (.iconst 0, 1) := by decide +kernel
theorem dX3_fits_28 : decode cX3_fits 28 = .ok (.ireturn, 1) := by decide +kernel
theorem dX3_loss_0 : decode cX3_loss 0 = .ok (.iconst 0, 1) := by decide +kernel
theorem dX3_loss_1 : decode cX3_loss 1 = .ok (.istore_n 2, 1) := by decide +kernel
theorem dX3_loss_2 : decode cX3_loss 2 = .ok (.iconst 0, 1) := by decide +kernel
theorem dX3_loss_3 : decode cX3_loss 3 = .ok (.istore_n 3, 1) := by decide +kernel
theorem dX3_loss_4 : decode cX3_loss 4 = .ok (.iload_n 3, 1) := by decide +kernel
theorem dX3_loss_5 : decode cX3_loss 5 = .ok (.aload_n 0, 1) := by decide +kernel
theorem dX3_loss_6 : decode cX3_loss 6 = .ok (.getfield 54, 3) := by decide +kernel
theorem dX3_loss_9 : decode cX3_loss 9 = .ok (.if_icmp .ge 31, 3) := by decide +kernel
theorem dX3_loss_12 : decode cX3_loss 12 = .ok (.iload_n 2, 1) := by decide +kernel
theorem dX3_loss_13 : decode cX3_loss 13 = .ok (.iload_n 1, 1) := by decide +kernel
theorem dX3_loss_14 : decode cX3_loss 14 = .ok (.iload_n 3, 1) := by decide +kernel
theorem dX3_loss_15 : decode cX3_loss 15 = .ok (.ishr, 1) := by decide +kernel
theorem dX3_loss_16 : decode cX3_loss 16 = .ok (.iconst 1, 1) := by decide +kernel
theorem dX3_loss_17 : decode cX3_loss 17 = .ok (.iand, 1) := by decide +kernel
theorem dX3_loss_18 : decode cX3_loss 18 = .ok (.iconst 1, 1) := by decide +kernel
theorem dX3_loss_19 : decode cX3_loss 19 = .ok (.if_icmp .ne 12, 3) := by decide +kernel
theorem dX3_loss_22 : decode cX3_loss 22 = .ok (.aload_n 0, 1) := by decide +kernel
theorem dX3_loss_23 : decode cX3_loss 23 = .ok (.getfield 13, 3) := by decide +kernel
theorem dX3_loss_26 : decode cX3_loss 26 = .ok (.iload_n 3, 1) := by decide +kernel
theorem dX3_loss_27 : decode cX3_loss 27 = .ok (.iaload, 1) := by decide +kernel
theorem dX3_loss_28 : decode cX3_loss 28 = .ok (.goto 4, 3) := by decide +kernel
theorem dX3_loss_31 : decode cX3_loss 31 = .ok (.iconst 0, 1) := by decide +kernel
theorem dX3_loss_32 : decode cX3_loss 32 = .ok (.iadd, 1) := by decide +kernel
theorem dX3_loss_33 : decode cX3_loss 33 = .ok (.istore_n 2, 1) := by decide +kernel
theorem dX3_loss_34 : decode cX3_loss 34 = .ok (.iinc 3 1, 3) := by decide +kernel
theorem dX3_loss_37 : decode cX3_loss 37 = .ok (.goto (-33), 3) := by decide +kernel
theorem dX3_loss_40 : decode cX3_loss 40 = .ok (.iconst 0, 1) := by decide +kernel
theorem dX3_loss_41 : decode cX3_loss 41 = .ok (.istore_n 3, 1) := by decide +kernel
theorem dX3_loss_42 : decode cX3_loss 42 = .ok (.iload_n 3, 1) := by decide +kernel
theorem dX3_loss_43 : decode cX3_loss 43 = .ok (.aload_n 0, 1) := by decide +kernel
theorem dX3_loss_44 : decode cX3_loss 44 = .ok (.getfield 78, 3) := by decide +kernel
theorem dX3_loss_47 : decode cX3_loss 47 = .ok (.if_icmp .ge 77, 3) := by decide +kernel
theorem dX3_loss_50 : decode cX3_loss 50 = .ok (.bipush 6, 2) := by decide +kernel
theorem dX3_loss_52 : decode cX3_loss 52 = .ok (.istore 4, 2) := by decide +kernel
theorem dX3_loss_54 : decode cX3_loss 54 = .ok (.iconst 0, 1) := by decide +kernel
theorem dX3_loss_55 : decode cX3_loss 55 = .ok (.istore 5, 2) := by decide +kernel
theorem dX3_loss_57 : decode cX3_loss 57 = .ok (.iload 5, 2) := by decide +kernel
theorem dX3_loss_59 : decode cX3_loss 59 = .ok (.aload_n 0, 1) := by decide +kernel
theorem dX3_loss_60 : decode cX3_loss 60 = .ok (.getfield 54, 3) := by decide +kernel
theorem dX3_loss_63 : decode cX3_loss 63 = .ok (.if_icmp .ge 48, 3) := by decide +kernel
theorem dX3_loss_66 : decode cX3_loss 66 = .ok (.iload_n 1, 1) := by decide +kernel
theorem dX3_loss_67 : decode cX3_loss 67 = .ok (.iload 5, 2) := by decide +kernel
theorem dX3_loss_69 : decode cX3_loss 69 = .ok (.ishr, 1) := by decide +kernel
theorem dX3_loss_70 : decode cX3_loss 70 = .ok (.iconst 1, 1) := by decide +kernel
theorem dX3_loss_71 : decode cX3_loss 71 = .ok (.iand, 1) := by decide +kernel
theorem dX3_loss_72 : decode cX3_loss 72 = .ok (.iconst 1, 1) := by decide +kernel
theorem dX3_loss_73 : decode cX3_loss 73 = .ok (.if_icmp .ne 32, 3) := by decide +kernel
theorem dX3_loss_76 : decode cX3_loss 76 = .ok (.iload 5, 2) := by decide +kernel
theorem dX3_loss_78 : decode cX3_loss 78 = .ok (.aload_n 0, 1) := by decide +kernel
theorem dX3_loss_79 : decode cX3_loss 79 = .ok (.getfield 47, 3) := by decide +kernel
theorem dX3_loss_82 : decode cX3_loss 82 = .ok (.iload_n 3, 1) := by decide +kernel
theorem dX3_loss_83 : decode cX3_loss 83 = .ok (.iaload, 1) := by decide +kernel
theorem dX3_loss_84 : decode cX3_loss 84 = .ok (.invokestatic 87, 3) := by decide +kernel
theorem dX3_loss_87 : decode cX3_loss 87 = .ok (.iload 4, 2) := by decide +kernel
theorem dX3_loss_89 : decode cX3_loss 89 = .ok (.if_icmp .ge 16, 3) := by decide +kernel
theorem dX3_loss_92 : decode cX3_loss 92 = .ok (.iload 5, 2) := by decide +kernel
theorem dX3_loss_94 : decode cX3_loss 94 = .ok (.aload_n 0, 1) := by decide +kernel
theorem dX3_loss_95 : decode cX3_loss 95 = .ok (.getfield 47, 3) := by decide +kernel
theorem dX3_loss_98 : decode cX3_loss 98 = .ok (.iload_n 3, 1) := by decide +kernel
theorem dX3_loss_99 : decode cX3_loss 99 = .ok (.iaload, 1) := by decide +kernel
theorem dX3_loss_100 : decode cX3_loss 100 = .ok (.invokestatic 87, 3) := by decide +kernel
theorem dX3_loss_103 : decode cX3_loss 103 = .ok (.istore 4, 2) := by decide +kernel
theorem dX3_loss_105 : decode cX3_loss 105 = .ok (.iinc 5 1, 3) := by decide +kernel
theorem dX3_loss_108 : decode cX3_loss 108 = .ok (.goto (-51), 3) := by decide +kernel
theorem dX3_loss_111 : decode cX3_loss 111 = .ok (.iload_n 2, 1) := by decide +kernel
theorem dX3_loss_112 : decode cX3_loss 112 = .ok (.iconst 3, 1) := by decide +kernel
theorem dX3_loss_113 : decode cX3_loss 113 = .ok (.iload 4, 2) := by decide +kernel
theorem dX3_loss_115 : decode cX3_loss 115 = .ok (.imul, 1) := by decide +kernel
theorem dX3_loss_116 : decode cX3_loss 116 = .ok (.iadd, 1) := by decide +kernel
theorem dX3_loss_117 : decode cX3_loss 117 = .ok (.istore_n 2, 1) := by decide +kernel
theorem dX3_loss_118 : decode cX3_loss 118 = .ok (.iinc 3 1, 3) := by decide +kernel
theorem dX3_loss_121 : decode cX3_loss 121 = .ok (.goto (-79), 3) := by decide +kernel
theorem dX3_loss_124 : decode cX3_loss 124 = .ok (.iload_n 2, 1) := by decide +kernel
theorem dX3_loss_125 : decode cX3_loss 125 = .ok (.ireturn, 1) := by decide +kernel
theorem dX3_best_0 : decode cX3_best 0 = .ok (.iconst (-1), 1) := by decide +kernel
theorem dX3_best_1 : decode cX3_best 1 = .ok (.istore_n 1, 1) := by decide +kernel
theorem dX3_best_2 : decode cX3_best 2 = .ok (.iconst 0, 1) := by decide +kernel
theorem dX3_best_3 : decode cX3_best 3 = .ok (.istore_n 2, 1) := by decide +kernel
theorem dX3_best_4 : decode cX3_best 4 = .ok (.iload_n 2, 1) := by decide +kernel
theorem dX3_best_5 : decode cX3_best 5 = .ok (.iconst 1, 1) := by decide +kernel
theorem dX3_best_6 : decode cX3_best 6 = .ok (.aload_n 0, 1) := by decide +kernel
theorem dX3_best_7 : decode cX3_best 7 = .ok (.getfield 54, 3) := by decide +kernel
theorem dX3_best_10 : decode cX3_best 10 = .ok (.ishl, 1) := by decide +kernel
theorem dX3_best_11 : decode cX3_best 11 = .ok (.if_icmp .ge 37, 3) := by decide +kernel
theorem dX3_best_14 : decode cX3_best 14 = .ok (.aload_n 0, 1) := by decide +kernel
theorem dX3_best_15 : decode cX3_best 15 = .ok (.iload_n 2, 1) := by decide +kernel
theorem dX3_best_16 : decode cX3_best 16 = .ok (.invokevirtual 91, 3) := by decide +kernel
theorem dX3_best_19 : decode cX3_best 19 = .ok (.ifCond .eq 23, 3) := by decide +kernel
theorem dX3_best_22 : decode cX3_best 22 = .ok (.iload_n 1, 1) := by decide +kernel
theorem dX3_best_23 : decode cX3_best 23 = .ok (.iconst (-1), 1) := by decide +kernel
theorem dX3_best_24 : decode cX3_best 24 = .ok (.if_icmp .eq 16, 3) := by decide +kernel
theorem dX3_best_27 : decode cX3_best 27 = .ok (.aload_n 0, 1) := by decide +kernel
theorem dX3_best_28 : decode cX3_best 28 = .ok (.iload_n 2, 1) := by decide +kernel
theorem dX3_best_29 : decode cX3_best 29 = .ok (.invokevirtual 94, 3) := by decide +kernel
theorem dX3_best_32 : decode cX3_best 32 = .ok (.aload_n 0, 1) := by decide +kernel
theorem dX3_best_33 : decode cX3_best 33 = .ok (.iload_n 1, 1) := by decide +kernel
theorem dX3_best_34 : decode cX3_best 34 = .ok (.invokevirtual 94, 3) := by decide +kernel
theorem dX3_best_37 : decode cX3_best 37 = .ok (.if_icmp .ge 5, 3) := by decide +kernel
theorem dX3_best_40 : decode cX3_best 40 = .ok (.iload_n 2, 1) := by decide +kernel
theorem dX3_best_41 : decode cX3_best 41 = .ok (.istore_n 1, 1) := by decide +kernel
theorem dX3_best_42 : decode cX3_best 42 = .ok (.iinc 2 1, 3) := by decide +kernel
theorem dX3_best_45 : decode cX3_best 45 = .ok (.goto (-41), 3) := by decide +kernel
theorem dX3_best_48 : decode cX3_best 48 = .ok (.aload_n 0, 1) := by decide +kernel
theorem dX3_best_49 : decode cX3_best 49 = .ok (.getfield 78, 3) := by decide +kernel
theorem dX3_best_52 : decode cX3_best 52 = .ok (.ifCond .ne 7, 3) := by decide +kernel
theorem dX3_best_55 : decode cX3_best 55 = .ok (.iconst 0, 1) := by decide +kernel
theorem dX3_best_56 : decode cX3_best 56 = .ok (.goto 4, 3) := by decide +kernel
theorem dX3_best_59 : decode cX3_best 59 = .ok (.iload_n 1, 1) := by decide +kernel
theorem dX3_best_60 : decode cX3_best 60 = .ok (.ireturn, 1) := by decide +kernel
theorem dX3_plan_0 : decode cX3_plan 0 = .ok (.aload_n 0, 1) := by decide +kernel
theorem dX3_plan_1 : decode cX3_plan 1 = .ok (.aload_n 0, 1) := by decide +kernel
theorem dX3_plan_2 : decode cX3_plan 2 = .ok (.invokevirtual 97, 3) := by decide +kernel
theorem dX3_plan_5 : decode cX3_plan 5 = .ok (.invokevirtual 68, 3) := by decide +kernel
theorem dX3_plan_8 : decode cX3_plan 8 = .ok (.ireturn, 1) := by decide +kernel
theorem dX3_planByTrying_0 : decode cX3_planByTrying 0 = .ok (.aload_n 0, 1) := by decide +kernel
theorem dX3_planByTrying_1 : decode cX3_planByTrying 1 = .ok (.aload_n 0, 1) := by decide +kernel
theorem dX3_planByTrying_2 : decode cX3_planByTrying 2 = .ok (.invokevirtual 97, 3) := by decide +kernel
theorem dX3_planByTrying_5 : decode cX3_planByTrying 5 = .ok (.invokevirtual 68, 3) := by decide +kernel
theorem dX3_planByTrying_8 : decode cX3_planByTrying 8 = .ok (.ireturn, 1) := by decide +kernel
theorem dX3_planLoss_0 : decode cX3_planLoss 0 = .ok (.aload_n 0, 1) := by decide +kernel
theorem dX3_planLoss_1 : decode cX3_planLoss 1 = .ok (.aload_n 0, 1) := by decide +kernel
theorem dX3_planLoss_2 : decode cX3_planLoss 2 = .ok (.aload_n 0, 1) := by decide +kernel
theorem dX3_planLoss_3 : decode cX3_planLoss 3 = .ok (.invokevirtual 97, 3) := by decide +kernel
theorem dX3_planLoss_6 : decode cX3_planLoss 6 = .ok (.invokevirtual 94, 3) := by decide +kernel
theorem dX3_planLoss_9 : decode cX3_planLoss 9 = .ok (.invokevirtual 68, 3) := by decide +kernel
theorem dX3_planLoss_12 : decode cX3_planLoss 12 = .ok (.ireturn, 1) := by decide +kernel
theorem dX3_lossOf_0 : decode cX3_lossOf 0 = .ok (.iload_n 1, 1) := by decide +kernel
theorem dX3_lossOf_1 : decode cX3_lossOf 1 = .ok (.iconst 0, 1) := by decide +kernel
theorem dX3_lossOf_2 : decode cX3_lossOf 2 = .ok (.iconst 1, 1) := by decide +kernel
theorem dX3_lossOf_3 : decode cX3_lossOf 3 = .ok (.aload_n 0, 1) := by decide +kernel
theorem dX3_lossOf_4 : decode cX3_lossOf 4 = .ok (.getfield 54, 3) := by decide +kernel
theorem dX3_lossOf_7 : decode cX3_lossOf 7 = .ok (.ishl, 1) := by decide +kernel
theorem dX3_lossOf_8 : decode cX3_lossOf 8 = .ok (.iconst 1, 1) := by decide +kernel
theorem dX3_lossOf_9 : decode cX3_lossOf 9 = .ok (.isub, 1) := by decide +kernel
theorem dX3_lossOf_10 : decode cX3_lossOf 10 = .ok (.invokestatic 57, 3) := by decide +kernel
theorem dX3_lossOf_13 : decode cX3_lossOf 13 = .ok (.ifCond .ne 9, 3) := by decide +kernel
theorem dX3_lossOf_16 : decode cX3_lossOf 16 = .ok (.aload_n 0, 1) := by decide +kernel
theorem dX3_lossOf_17 : decode cX3_lossOf 17 = .ok (.iconst 1, 1) := by decide +kernel
theorem dX3_lossOf_18 : decode cX3_lossOf 18 = .ok (.invokevirtual 64, 3) := by decide +kernel
theorem dX3_lossOf_21 : decode cX3_lossOf 21 = .ok (.ireturn, 1) := by decide +kernel
theorem dX3_lossOf_22 : decode cX3_lossOf 22 = .ok (.aload_n 0, 1) := by decide +kernel
theorem dX3_lossOf_23 : decode cX3_lossOf 23 = .ok (.iload_n 1, 1) := by decide +kernel
theorem dX3_lossOf_24 : decode cX3_lossOf 24 = .ok (.invokevirtual 91, 3) := by decide +kernel
theorem dX3_lossOf_27 : decode cX3_lossOf 27 = .ok (.ifCond .eq 15, 3) := by decide +kernel
theorem dX3_lossOf_30 : decode cX3_lossOf 30 = .ok (.aload_n 0, 1) := by decide +kernel
theorem dX3_lossOf_31 : decode cX3_lossOf 31 = .ok (.aload_n 0, 1) := by decide +kernel
theorem dX3_lossOf_32 : decode cX3_lossOf 32 = .ok (.iload_n 1, 1) := by decide +kernel
theorem dX3_lossOf_33 : decode cX3_lossOf 33 = .ok (.invokevirtual 94, 3) := by decide +kernel
theorem dX3_lossOf_36 : decode cX3_lossOf 36 = .ok (.invokevirtual 68, 3) := by decide +kernel
theorem dX3_lossOf_39 : decode cX3_lossOf 39 = .ok (.goto 8, 3) := by decide +kernel
theorem dX3_lossOf_42 : decode cX3_lossOf 42 = .ok (.aload_n 0, 1) := by decide +kernel
theorem dX3_lossOf_43 : decode cX3_lossOf 43 = .ok (.iconst 2, 1) := by decide +kernel
theorem dX3_lossOf_44 : decode cX3_lossOf 44 = .ok (.invokevirtual 64, 3) := by decide +kernel
theorem dX3_lossOf_47 : decode cX3_lossOf 47 = .ok (.ireturn, 1) := by decide +kernel
theorem dX3_sitting_0 : decode cX3_sitting 0 = .ok (.iconst 0, 1) := by decide +kernel
theorem dX3_sitting_1 : decode cX3_sitting 1 = .ok (.istore_n 3, 1) := by decide +kernel
theorem dX3_sitting_2 : decode cX3_sitting 2 = .ok (.iconst 0, 1) := by decide +kernel
theorem dX3_sitting_3 : decode cX3_sitting 3 = .ok (.istore 4, 2) := by decide +kernel
theorem dX3_sitting_5 : decode cX3_sitting 5 = .ok (.iload 4, 2) := by decide +kernel
theorem dX3_sitting_7 : decode cX3_sitting 7 = .ok (.aload_n 0, 1) := by decide +kernel
theorem dX3_sitting_8 : decode cX3_sitting 8 = .ok (.getfield 61, 3) := by decide +kernel
theorem dX3_sitting_11 : decode cX3_sitting 11 = .ok (.if_icmp .ge 44, 3) := by decide +kernel
theorem dX3_sitting_14 : decode cX3_sitting 14 = .ok (.iload_n 3, 1) := by decide +kernel
theorem dX3_sitting_15 : decode cX3_sitting 15 = .ok (.aload_n 0, 1) := by decide +kernel
theorem dX3_sitting_16 : decode cX3_sitting 16 = .ok (.getfield 32, 3) := by decide +kernel
theorem dX3_sitting_19 : decode cX3_sitting 19 = .ok (.iload 4, 2) := by decide +kernel
theorem dX3_sitting_21 : decode cX3_sitting 21 = .ok (.iaload, 1) := by decide +kernel
theorem dX3_sitting_22 : decode cX3_sitting 22 = .ok (.iload_n 1, 1) := by decide +kernel
theorem dX3_sitting_23 : decode cX3_sitting 23 = .ok (.if_icmp .ne 23, 3) := by decide +kernel
theorem dX3_sitting_26 : decode cX3_sitting 26 = .ok (.iload_n 2, 1) := by decide +kernel
theorem dX3_sitting_27 : decode cX3_sitting 27 = .ok (.iconst (-1), 1) := by decide +kernel
theorem dX3_sitting_28 : decode cX3_sitting 28 = .ok (.if_icmp .eq 14, 3) := by decide +kernel
theorem dX3_sitting_31 : decode cX3_sitting 31 = .ok (.aload_n 0, 1) := by decide +kernel
theorem dX3_sitting_32 : decode cX3_sitting 32 = .ok (.getfield 26, 3) := by decide +kernel
theorem dX3_sitting_35 : decode cX3_sitting 35 = .ok (.iload 4, 2) := by decide +kernel
theorem dX3_sitting_37 : decode cX3_sitting 37 = .ok (.iaload, 1) := by decide +kernel
theorem dX3_sitting_38 : decode cX3_sitting 38 = .ok (.iload_n 2, 1) := by decide +kernel
theorem dX3_sitting_39 : decode cX3_sitting 39 = .ok (.if_icmp .ne 7, 3) := by decide +kernel
theorem dX3_sitting_42 : decode cX3_sitting 42 = .ok (.iconst 1, 1) := by decide +kernel
theorem dX3_sitting_43 : decode cX3_sitting 43 = .ok (.goto 4, 3) := by decide +kernel
theorem dX3_sitting_46 : decode cX3_sitting 46 = .ok (.iconst 0, 1) := by decide +kernel
theorem dX3_sitting_47 : decode cX3_sitting 47 = .ok (.iadd, 1) := by decide +kernel
theorem dX3_sitting_48 : decode cX3_sitting 48 = .ok (.istore_n 3, 1) := by decide +kernel
theorem dX3_sitting_49 : decode cX3_sitting 49 = .ok (.iinc 4 1, 3) := by decide +kernel
theorem dX3_sitting_52 : decode cX3_sitting 52 = .ok (.goto (-47), 3) := by decide +kernel
theorem dX3_sitting_55 : decode cX3_sitting 55 = .ok (.iload_n 3, 1) := by decide +kernel
theorem dX3_sitting_56 : decode cX3_sitting 56 = .ok (.ireturn, 1) := by decide +kernel
theorem dX3_judges_0 : decode cX3_judges 0 = .ok (.iconst 0, 1) := by decide +kernel
theorem dX3_judges_1 : decode cX3_judges 1 = .ok (.istore_n 1, 1) := by decide +kernel
theorem dX3_judges_2 : decode cX3_judges 2 = .ok (.iconst 0, 1) := by decide +kernel
theorem dX3_judges_3 : decode cX3_judges 3 = .ok (.istore_n 2, 1) := by decide +kernel
theorem dX3_judges_4 : decode cX3_judges 4 = .ok (.iload_n 2, 1) := by decide +kernel
theorem dX3_judges_5 : decode cX3_judges 5 = .ok (.aload_n 0, 1) := by decide +kernel
theorem dX3_judges_6 : decode cX3_judges 6 = .ok (.getfield 61, 3) := by decide +kernel
theorem dX3_judges_9 : decode cX3_judges 9 = .ok (.if_icmp .ge 85, 3) := by decide +kernel
theorem dX3_judges_12 : decode cX3_judges 12 = .ok (.aload_n 0, 1) := by decide +kernel
theorem dX3_judges_13 : decode cX3_judges 13 = .ok (.getfield 32, 3) := by decide +kernel
theorem dX3_judges_16 : decode cX3_judges 16 = .ok (.iload_n 2, 1) := by decide +kernel
theorem dX3_judges_17 : decode cX3_judges 17 = .ok (.iaload, 1) := by decide +kernel
theorem dX3_judges_18 : decode cX3_judges 18 = .ok (.iconst (-1), 1) := by decide +kernel
theorem dX3_judges_19 : decode cX3_judges 19 = .ok (.if_icmp .ne 6, 3) := by decide +kernel
theorem dX3_judges_22 : decode cX3_judges 22 = .ok (.goto 66, 3) := by decide +kernel
theorem dX3_judges_25 : decode cX3_judges 25 = .ok (.aload_n 0, 1) := by decide +kernel
theorem dX3_judges_26 : decode cX3_judges 26 = .ok (.getfield 38, 3) := by decide +kernel
theorem dX3_judges_29 : decode cX3_judges 29 = .ok (.iload_n 2, 1) := by decide +kernel
theorem dX3_judges_30 : decode cX3_judges 30 = .ok (.baload, 1) := by decide +kernel
theorem dX3_judges_31 : decode cX3_judges 31 = .ok (.ifCond .eq 31, 3) := by decide +kernel
theorem dX3_judges_34 : decode cX3_judges 34 = .ok (.aload_n 0, 1) := by decide +kernel
theorem dX3_judges_35 : decode cX3_judges 35 = .ok (.getfield 29, 3) := by decide +kernel
theorem dX3_judges_38 : decode cX3_judges 38 = .ok (.iload_n 2, 1) := by decide +kernel
theorem dX3_judges_39 : decode cX3_judges 39 = .ok (.dup2, 1) := by decide +kernel
theorem dX3_judges_40 : decode cX3_judges 40 = .ok (.iaload, 1) := by decide +kernel
theorem dX3_judges_41 : decode cX3_judges 41 = .ok (.aload_n 0, 1) := by decide +kernel
theorem dX3_judges_42 : decode cX3_judges 42 = .ok (.getfield 29, 3) := by decide +kernel
theorem dX3_judges_45 : decode cX3_judges 45 = .ok (.iload_n 2, 1) := by decide +kernel
theorem dX3_judges_46 : decode cX3_judges 46 = .ok (.iaload, 1) := by decide +kernel
theorem dX3_judges_47 : decode cX3_judges 47 = .ok (.bipush 10, 2) := by decide +kernel
theorem dX3_judges_49 : decode cX3_judges 49 = .ok (.if_icmp .ge 7, 3) := by decide +kernel
theorem dX3_judges_52 : decode cX3_judges 52 = .ok (.iconst 1, 1) := by decide +kernel
theorem dX3_judges_53 : decode cX3_judges 53 = .ok (.goto 4, 3) := by decide +kernel
theorem dX3_judges_56 : decode cX3_judges 56 = .ok (.iconst 0, 1) := by decide +kernel
theorem dX3_judges_57 : decode cX3_judges 57 = .ok (.iadd, 1) := by decide +kernel
theorem dX3_judges_58 : decode cX3_judges 58 = .ok (.iastore, 1) := by decide +kernel
theorem dX3_judges_59 : decode cX3_judges 59 = .ok (.goto 29, 3) := by decide +kernel
theorem dX3_judges_62 : decode cX3_judges 62 = .ok (.aload_n 0, 1) := by decide +kernel
theorem dX3_judges_63 : decode cX3_judges 63 = .ok (.getfield 29, 3) := by decide +kernel
theorem dX3_judges_66 : decode cX3_judges 66 = .ok (.iload_n 2, 1) := by decide +kernel
theorem dX3_judges_67 : decode cX3_judges 67 = .ok (.dup2, 1) := by decide +kernel
theorem dX3_judges_68 : decode cX3_judges 68 = .ok (.iaload, 1) := by decide +kernel
theorem dX3_judges_69 : decode cX3_judges 69 = .ok (.aload_n 0, 1) := by decide +kernel
theorem dX3_judges_70 : decode cX3_judges 70 = .ok (.getfield 29, 3) := by decide +kernel
theorem dX3_judges_73 : decode cX3_judges 73 = .ok (.iload_n 2, 1) := by decide +kernel
theorem dX3_judges_74 : decode cX3_judges 74 = .ok (.iaload, 1) := by decide +kernel
theorem dX3_judges_75 : decode cX3_judges 75 = .ok (.ifCond .le 7, 3) := by decide +kernel
theorem dX3_judges_78 : decode cX3_judges 78 = .ok (.iconst 1, 1) := by decide +kernel
theorem dX3_judges_79 : decode cX3_judges 79 = .ok (.goto 4, 3) := by decide +kernel
theorem dX3_judges_82 : decode cX3_judges 82 = .ok (.iconst 0, 1) := by decide +kernel
theorem dX3_judges_83 : decode cX3_judges 83 = .ok (.isub, 1) := by decide +kernel
theorem dX3_judges_84 : decode cX3_judges 84 = .ok (.iastore, 1) := by decide +kernel
theorem dX3_judges_85 : decode cX3_judges 85 = .ok (.iinc 1 1, 3) := by decide +kernel
theorem dX3_judges_88 : decode cX3_judges 88 = .ok (.iinc 2 1, 3) := by decide +kernel
theorem dX3_judges_91 : decode cX3_judges 91 = .ok (.goto (-87), 3) := by decide +kernel
theorem dX3_judges_94 : decode cX3_judges 94 = .ok (.iload_n 1, 1) := by decide +kernel
theorem dX3_judges_95 : decode cX3_judges 95 = .ok (.ireturn, 1) := by decide +kernel
theorem dX3_cleans_0 : decode cX3_cleans 0 = .ok (.iconst 0, 1) := by decide +kernel
theorem dX3_cleans_1 : decode cX3_cleans 1 = .ok (.istore_n 1, 1) := by decide +kernel
theorem dX3_cleans_2 : decode cX3_cleans 2 = .ok (.iload_n 1, 1) := by decide +kernel
theorem dX3_cleans_3 : decode cX3_cleans 3 = .ok (.aload_n 0, 1) := by decide +kernel
theorem dX3_cleans_4 : decode cX3_cleans 4 = .ok (.getfield 54, 3) := by decide +kernel
theorem dX3_cleans_7 : decode cX3_cleans 7 = .ok (.if_icmp .ge 84, 3) := by decide +kernel
theorem dX3_cleans_10 : decode cX3_cleans 10 = .ok (.aload_n 0, 1) := by decide +kernel
theorem dX3_cleans_11 : decode cX3_cleans 11 = .ok (.getfield 22, 3) := by decide +kernel
theorem dX3_cleans_14 : decode cX3_cleans 14 = .ok (.iload_n 1, 1) := by decide +kernel
theorem dX3_cleans_15 : decode cX3_cleans 15 = .ok (.baload, 1) := by decide +kernel
theorem dX3_cleans_16 : decode cX3_cleans 16 = .ok (.ifCond .ne 6, 3) := by decide +kernel
theorem dX3_cleans_19 : decode cX3_cleans 19 = .ok (.goto 66, 3) := by decide +kernel
theorem dX3_cleans_22 : decode cX3_cleans 22 = .ok (.aload_n 0, 1) := by decide +kernel
theorem dX3_cleans_23 : decode cX3_cleans 23 = .ok (.dup, 1) := by decide +kernel
theorem dX3_cleans_24 : decode cX3_cleans 24 = .ok (.getfield 101, 3) := by decide +kernel
theorem dX3_cleans_27 : decode cX3_cleans 27 = .ok (.ldc2_w 105, 3) := by decide +kernel
theorem dX3_cleans_30 : decode cX3_cleans 30 = .ok (.ladd, 1) := by decide +kernel
theorem dX3_cleans_31 : decode cX3_cleans 31 = .ok (.putfield 101, 3) := by decide +kernel
theorem dX3_cleans_34 : decode cX3_cleans 34 = .ok (.iconst 0, 1) := by decide +kernel
theorem dX3_cleans_35 : decode cX3_cleans 35 = .ok (.istore_n 2, 1) := by decide +kernel
theorem dX3_cleans_36 : decode cX3_cleans 36 = .ok (.iload_n 2, 1) := by decide +kernel
theorem dX3_cleans_37 : decode cX3_cleans 37 = .ok (.aload_n 0, 1) := by decide +kernel
theorem dX3_cleans_38 : decode cX3_cleans 38 = .ok (.getfield 61, 3) := by decide +kernel
theorem dX3_cleans_41 : decode cX3_cleans 41 = .ok (.if_icmp .ge 44, 3) := by decide +kernel
theorem dX3_cleans_44 : decode cX3_cleans 44 = .ok (.aload_n 0, 1) := by decide +kernel
theorem dX3_cleans_45 : decode cX3_cleans 45 = .ok (.dup, 1) := by decide +kernel
theorem dX3_cleans_46 : decode cX3_cleans 46 = .ok (.getfield 101, 3) := by decide +kernel
theorem dX3_cleans_49 : decode cX3_cleans 49 = .ok (.aload_n 0, 1) := by decide +kernel
theorem dX3_cleans_50 : decode cX3_cleans 50 = .ok (.getfield 32, 3) := by decide +kernel
theorem dX3_cleans_53 : decode cX3_cleans 53 = .ok (.iload_n 2, 1) := by decide +kernel
theorem dX3_cleans_54 : decode cX3_cleans 54 = .ok (.iaload, 1) := by decide +kernel
theorem dX3_cleans_55 : decode cX3_cleans 55 = .ok (.iload_n 1, 1) := by decide +kernel
theorem dX3_cleans_56 : decode cX3_cleans 56 = .ok (.if_icmp .ne 18, 3) := by decide +kernel
theorem dX3_cleans_59 : decode cX3_cleans 59 = .ok (.aload_n 0, 1) := by decide +kernel
theorem dX3_cleans_60 : decode cX3_cleans 60 = .ok (.getfield 38, 3) := by decide +kernel
theorem dX3_cleans_63 : decode cX3_cleans 63 = .ok (.iload_n 2, 1) := by decide +kernel
theorem dX3_cleans_64 : decode cX3_cleans 64 = .ok (.baload, 1) := by decide +kernel
theorem dX3_cleans_65 : decode cX3_cleans 65 = .ok (.ifCond .eq 9, 3) := by decide +kernel
theorem dX3_cleans_68 : decode cX3_cleans 68 = .ok (.ldc2_w 107, 3) := by decide +kernel
theorem dX3_cleans_71 : decode cX3_cleans 71 = .ok (.goto 4, 3) := by decide +kernel
theorem dX3_cleans_74 : decode cX3_cleans 74 = .ok (.lconst 0, 1) := by decide +kernel
theorem dX3_cleans_75 : decode cX3_cleans 75 = .ok (.ladd, 1) := by decide +kernel
theorem dX3_cleans_76 : decode cX3_cleans 76 = .ok (.putfield 101, 3) := by decide +kernel
theorem dX3_cleans_79 : decode cX3_cleans 79 = .ok (.iinc 2 1, 3) := by decide +kernel
theorem dX3_cleans_82 : decode cX3_cleans 82 = .ok (.goto (-46), 3) := by decide +kernel
theorem dX3_cleans_85 : decode cX3_cleans 85 = .ok (.iinc 1 1, 3) := by decide +kernel
theorem dX3_cleans_88 : decode cX3_cleans 88 = .ok (.goto (-86), 3) := by decide +kernel
theorem dX3_cleans_91 : decode cX3_cleans 91 = .ok (.return_, 1) := by decide +kernel
theorem dX3_isNearer_0 : decode cX3_isNearer 0 = .ok (.iload_n 3, 1) := by decide +kernel
theorem dX3_isNearer_1 : decode cX3_isNearer 1 = .ok (.iconst (-1), 1) := by decide +kernel
theorem dX3_isNearer_2 : decode cX3_isNearer 2 = .ok (.if_icmp .ne 5, 3) := by decide +kernel
theorem dX3_isNearer_5 : decode cX3_isNearer 5 = .ok (.iconst 1, 1) := by decide +kernel
theorem dX3_isNearer_6 : decode cX3_isNearer 6 = .ok (.ireturn, 1) := by decide +kernel
theorem dX3_isNearer_7 : decode cX3_isNearer 7 = .ok (.iload_n 2, 1) := by decide +kernel
theorem dX3_isNearer_8 : decode cX3_isNearer 8 = .ok (.aload_n 0, 1) := by decide +kernel
theorem dX3_isNearer_9 : decode cX3_isNearer 9 = .ok (.getfield 47, 3) := by decide +kernel
theorem dX3_isNearer_12 : decode cX3_isNearer 12 = .ok (.iload_n 1, 1) := by decide +kernel
theorem dX3_isNearer_13 : decode cX3_isNearer 13 = .ok (.iaload, 1) := by decide +kernel
theorem dX3_isNearer_14 : decode cX3_isNearer 14 = .ok (.invokestatic 87, 3) := by decide +kernel
theorem dX3_isNearer_17 : decode cX3_isNearer 17 = .ok (.istore 4, 2) := by decide +kernel
theorem dX3_isNearer_19 : decode cX3_isNearer 19 = .ok (.iload_n 3, 1) := by decide +kernel
theorem dX3_isNearer_20 : decode cX3_isNearer 20 = .ok (.aload_n 0, 1) := by decide +kernel
theorem dX3_isNearer_21 : decode cX3_isNearer 21 = .ok (.getfield 47, 3) := by decide +kernel
theorem dX3_isNearer_24 : decode cX3_isNearer 24 = .ok (.iload_n 1, 1) := by decide +kernel
theorem dX3_isNearer_25 : decode cX3_isNearer 25 = .ok (.iaload, 1) := by decide +kernel
theorem dX3_isNearer_26 : decode cX3_isNearer 26 = .ok (.invokestatic 87, 3) := by decide +kernel
theorem dX3_isNearer_29 : decode cX3_isNearer 29 = .ok (.istore 5, 2) := by decide +kernel
theorem dX3_isNearer_31 : decode cX3_isNearer 31 = .ok (.iload 4, 2) := by decide +kernel
theorem dX3_isNearer_33 : decode cX3_isNearer 33 = .ok (.iload 5, 2) := by decide +kernel
theorem dX3_isNearer_35 : decode cX3_isNearer 35 = .ok (.if_icmp .eq 16, 3) := by decide +kernel
theorem dX3_isNearer_38 : decode cX3_isNearer 38 = .ok (.iload 4, 2) := by decide +kernel
theorem dX3_isNearer_40 : decode cX3_isNearer 40 = .ok (.iload 5, 2) := by decide +kernel
theorem dX3_isNearer_42 : decode cX3_isNearer 42 = .ok (.if_icmp .ge 7, 3) := by decide +kernel
theorem dX3_isNearer_45 : decode cX3_isNearer 45 = .ok (.iconst 1, 1) := by decide +kernel
theorem dX3_isNearer_46 : decode cX3_isNearer 46 = .ok (.goto 4, 3) := by decide +kernel
theorem dX3_isNearer_49 : decode cX3_isNearer 49 = .ok (.iconst 0, 1) := by decide +kernel
theorem dX3_isNearer_50 : decode cX3_isNearer 50 = .ok (.ireturn, 1) := by decide +kernel
theorem dX3_isNearer_51 : decode cX3_isNearer 51 = .ok (.aload_n 0, 1) := by decide +kernel
theorem dX3_isNearer_52 : decode cX3_isNearer 52 = .ok (.iload_n 2, 1) := by decide +kernel
theorem dX3_isNearer_53 : decode cX3_isNearer 53 = .ok (.aload_n 0, 1) := by decide +kernel
theorem dX3_isNearer_54 : decode cX3_isNearer 54 = .ok (.getfield 26, 3) := by decide +kernel
theorem dX3_isNearer_57 : decode cX3_isNearer 57 = .ok (.aload_n 0, 1) := by decide +kernel
theorem dX3_isNearer_58 : decode cX3_isNearer 58 = .ok (.getfield 44, 3) := by decide +kernel
theorem dX3_isNearer_61 : decode cX3_isNearer 61 = .ok (.iload_n 1, 1) := by decide +kernel
theorem dX3_isNearer_62 : decode cX3_isNearer 62 = .ok (.iaload, 1) := by decide +kernel
theorem dX3_isNearer_63 : decode cX3_isNearer 63 = .ok (.iaload, 1) := by decide +kernel
theorem dX3_isNearer_64 : decode cX3_isNearer 64 = .ok (.invokevirtual 109, 3) := by decide +kernel
theorem dX3_isNearer_67 : decode cX3_isNearer 67 = .ok (.aload_n 0, 1) := by decide +kernel
theorem dX3_isNearer_68 : decode cX3_isNearer 68 = .ok (.iload_n 3, 1) := by decide +kernel
theorem dX3_isNearer_69 : decode cX3_isNearer 69 = .ok (.aload_n 0, 1) := by decide +kernel
theorem dX3_isNearer_70 : decode cX3_isNearer 70 = .ok (.getfield 26, 3) := by decide +kernel
theorem dX3_isNearer_73 : decode cX3_isNearer 73 = .ok (.aload_n 0, 1) := by decide +kernel
theorem dX3_isNearer_74 : decode cX3_isNearer 74 = .ok (.getfield 44, 3) := by decide +kernel
theorem dX3_isNearer_77 : decode cX3_isNearer 77 = .ok (.iload_n 1, 1) := by decide +kernel
theorem dX3_isNearer_78 : decode cX3_isNearer 78 = .ok (.iaload, 1) := by decide +kernel
theorem dX3_isNearer_79 : decode cX3_isNearer 79 = .ok (.iaload, 1) := by decide +kernel
theorem dX3_isNearer_80 : decode cX3_isNearer 80 = .ok (.invokevirtual 109, 3) := by decide +kernel
theorem dX3_isNearer_83 : decode cX3_isNearer 83 = .ok (.if_icmp .le 7, 3) := by decide +kernel
theorem dX3_isNearer_86 : decode cX3_isNearer 86 = .ok (.iconst 1, 1) := by decide +kernel
theorem dX3_isNearer_87 : decode cX3_isNearer 87 = .ok (.goto 4, 3) := by decide +kernel
theorem dX3_isNearer_90 : decode cX3_isNearer 90 = .ok (.iconst 0, 1) := by decide +kernel
theorem dX3_isNearer_91 : decode cX3_isNearer 91 = .ok (.ireturn, 1) := by decide +kernel
theorem dX3_gives_0 : decode cX3_gives 0 = .ok (.iconst (-1), 1) := by decide +kernel
theorem dX3_gives_1 : decode cX3_gives 1 = .ok (.istore_n 2, 1) := by decide +kernel
theorem dX3_gives_2 : decode cX3_gives 2 = .ok (.iconst 0, 1) := by decide +kernel
theorem dX3_gives_3 : decode cX3_gives 3 = .ok (.istore_n 3, 1) := by decide +kernel
theorem dX3_gives_4 : decode cX3_gives 4 = .ok (.iload_n 3, 1) := by decide +kernel
theorem dX3_gives_5 : decode cX3_gives 5 = .ok (.aload_n 0, 1) := by decide +kernel
theorem dX3_gives_6 : decode cX3_gives 6 = .ok (.getfield 54, 3) := by decide +kernel
theorem dX3_gives_9 : decode cX3_gives 9 = .ok (.if_icmp .ge 45, 3) := by decide +kernel
theorem dX3_gives_12 : decode cX3_gives 12 = .ok (.aload_n 0, 1) := by decide +kernel
theorem dX3_gives_13 : decode cX3_gives 13 = .ok (.getfield 22, 3) := by decide +kernel
theorem dX3_gives_16 : decode cX3_gives 16 = .ok (.iload_n 3, 1) := by decide +kernel
theorem dX3_gives_17 : decode cX3_gives 17 = .ok (.baload, 1) := by decide +kernel
theorem dX3_gives_18 : decode cX3_gives 18 = .ok (.ifCond .eq 30, 3) := by decide +kernel
theorem dX3_gives_21 : decode cX3_gives 21 = .ok (.aload_n 0, 1) := by decide +kernel
theorem dX3_gives_22 : decode cX3_gives 22 = .ok (.iload_n 3, 1) := by decide +kernel
theorem dX3_gives_23 : decode cX3_gives 23 = .ok (.iconst (-1), 1) := by decide +kernel
theorem dX3_gives_24 : decode cX3_gives 24 = .ok (.invokevirtual 109, 3) := by decide +kernel
theorem dX3_gives_27 : decode cX3_gives 27 = .ok (.aload_n 0, 1) := by decide +kernel
theorem dX3_gives_28 : decode cX3_gives 28 = .ok (.getfield 7, 3) := by decide +kernel
theorem dX3_gives_31 : decode cX3_gives 31 = .ok (.iload_n 3, 1) := by decide +kernel
theorem dX3_gives_32 : decode cX3_gives 32 = .ok (.iaload, 1) := by decide +kernel
theorem dX3_gives_33 : decode cX3_gives 33 = .ok (.if_icmp .ge 15, 3) := by decide +kernel
theorem dX3_gives_36 : decode cX3_gives 36 = .ok (.aload_n 0, 1) := by decide +kernel
theorem dX3_gives_37 : decode cX3_gives 37 = .ok (.iload_n 1, 1) := by decide +kernel
theorem dX3_gives_38 : decode cX3_gives 38 = .ok (.iload_n 3, 1) := by decide +kernel
theorem dX3_gives_39 : decode cX3_gives 39 = .ok (.iload_n 2, 1) := by decide +kernel
theorem dX3_gives_40 : decode cX3_gives 40 = .ok (.invokevirtual 112, 3) := by decide +kernel
theorem dX3_gives_43 : decode cX3_gives 43 = .ok (.ifCond .eq 5, 3) := by decide +kernel
theorem dX3_gives_46 : decode cX3_gives 46 = .ok (.iload_n 3, 1) := by decide +kernel
theorem dX3_gives_47 : decode cX3_gives 47 = .ok (.istore_n 2, 1) := by decide +kernel
theorem dX3_gives_48 : decode cX3_gives 48 = .ok (.iinc 3 1, 3) := by decide +kernel
theorem dX3_gives_51 : decode cX3_gives 51 = .ok (.goto (-47), 3) := by decide +kernel
theorem dX3_gives_54 : decode cX3_gives 54 = .ok (.aload_n 0, 1) := by decide +kernel
theorem dX3_gives_55 : decode cX3_gives 55 = .ok (.getfield 32, 3) := by decide +kernel
theorem dX3_gives_58 : decode cX3_gives 58 = .ok (.aload_n 0, 1) := by decide +kernel
theorem dX3_gives_59 : decode cX3_gives 59 = .ok (.getfield 44, 3) := by decide +kernel
theorem dX3_gives_62 : decode cX3_gives 62 = .ok (.iload_n 1, 1) := by decide +kernel
theorem dX3_gives_63 : decode cX3_gives 63 = .ok (.iaload, 1) := by decide +kernel
theorem dX3_gives_64 : decode cX3_gives 64 = .ok (.iload_n 2, 1) := by decide +kernel
theorem dX3_gives_65 : decode cX3_gives 65 = .ok (.iastore, 1) := by decide +kernel
theorem dX3_gives_66 : decode cX3_gives 66 = .ok (.return_, 1) := by decide +kernel
theorem dX3_nextDay_0 : decode cX3_nextDay 0 = .ok (.aload_n 0, 1) := by decide +kernel
theorem dX3_nextDay_1 : decode cX3_nextDay 1 = .ok (.getfield 115, 3) := by decide +kernel
theorem dX3_nextDay_4 : decode cX3_nextDay 4 = .ok (.sipush 365, 3) := by decide +kernel
theorem dX3_nextDay_7 : decode cX3_nextDay 7 = .ok (.if_icmp .ne 9, 3) := by decide +kernel
theorem dX3_nextDay_10 : decode cX3_nextDay 10 = .ok (.aload_n 0, 1) := by decide +kernel
theorem dX3_nextDay_11 : decode cX3_nextDay 11 = .ok (.iconst 1, 1) := by decide +kernel
theorem dX3_nextDay_12 : decode cX3_nextDay 12 = .ok (.invokevirtual 64, 3) := by decide +kernel
theorem dX3_nextDay_15 : decode cX3_nextDay 15 = .ok (.ireturn, 1) := by decide +kernel
theorem dX3_nextDay_16 : decode cX3_nextDay 16 = .ok (.aload_n 0, 1) := by decide +kernel
theorem dX3_nextDay_17 : decode cX3_nextDay 17 = .ok (.invokevirtual 118, 3) := by decide +kernel
theorem dX3_nextDay_20 : decode cX3_nextDay 20 = .ok (.istore_n 1, 1) := by decide +kernel
theorem dX3_nextDay_21 : decode cX3_nextDay 21 = .ok (.aload_n 0, 1) := by decide +kernel
theorem dX3_nextDay_22 : decode cX3_nextDay 22 = .ok (.dup, 1) := by decide +kernel
theorem dX3_nextDay_23 : decode cX3_nextDay 23 = .ok (.getfield 121, 3) := by decide +kernel
theorem dX3_nextDay_26 : decode cX3_nextDay 26 = .ok (.iload_n 1, 1) := by decide +kernel
theorem dX3_nextDay_27 : decode cX3_nextDay 27 = .ok (.iadd, 1) := by decide +kernel
theorem dX3_nextDay_28 : decode cX3_nextDay 28 = .ok (.putfield 121, 3) := by decide +kernel
theorem dX3_nextDay_31 : decode cX3_nextDay 31 = .ok (.aload_n 0, 1) := by decide +kernel
theorem dX3_nextDay_32 : decode cX3_nextDay 32 = .ok (.invokevirtual 124, 3) := by decide +kernel
theorem dX3_nextDay_35 : decode cX3_nextDay 35 = .ok (.aload_n 0, 1) := by decide +kernel
theorem dX3_nextDay_36 : decode cX3_nextDay 36 = .ok (.invokevirtual 97, 3) := by decide +kernel
theorem dX3_nextDay_39 : decode cX3_nextDay 39 = .ok (.istore_n 2, 1) := by decide +kernel
theorem dX3_nextDay_40 : decode cX3_nextDay 40 = .ok (.iconst 0, 1) := by decide +kernel
theorem dX3_nextDay_41 : decode cX3_nextDay 41 = .ok (.istore_n 3, 1) := by decide +kernel
theorem dX3_nextDay_42 : decode cX3_nextDay 42 = .ok (.iload_n 3, 1) := by decide +kernel
theorem dX3_nextDay_43 : decode cX3_nextDay 43 = .ok (.aload_n 0, 1) := by decide +kernel
theorem dX3_nextDay_44 : decode cX3_nextDay 44 = .ok (.getfield 54, 3) := by decide +kernel
theorem dX3_nextDay_47 : decode cX3_nextDay 47 = .ok (.if_icmp .ge 29, 3) := by decide +kernel
theorem dX3_nextDay_50 : decode cX3_nextDay 50 = .ok (.aload_n 0, 1) := by decide +kernel
theorem dX3_nextDay_51 : decode cX3_nextDay 51 = .ok (.getfield 22, 3) := by decide +kernel
theorem dX3_nextDay_54 : decode cX3_nextDay 54 = .ok (.iload_n 3, 1) := by decide +kernel
theorem dX3_nextDay_55 : decode cX3_nextDay 55 = .ok (.iload_n 2, 1) := by decide +kernel
theorem dX3_nextDay_56 : decode cX3_nextDay 56 = .ok (.iload_n 3, 1) := by decide +kernel
theorem dX3_nextDay_57 : decode cX3_nextDay 57 = .ok (.ishr, 1) := by decide +kernel
theorem dX3_nextDay_58 : decode cX3_nextDay 58 = .ok (.iconst 1, 1) := by decide +kernel
theorem dX3_nextDay_59 : decode cX3_nextDay 59 = .ok (.iand, 1) := by decide +kernel
theorem dX3_nextDay_60 : decode cX3_nextDay 60 = .ok (.iconst 1, 1) := by decide +kernel
theorem dX3_nextDay_61 : decode cX3_nextDay 61 = .ok (.if_icmp .ne 7, 3) := by decide +kernel
theorem dX3_nextDay_64 : decode cX3_nextDay 64 = .ok (.iconst 1, 1) := by decide +kernel
theorem dX3_nextDay_65 : decode cX3_nextDay 65 = .ok (.goto 4, 3) := by decide +kernel
theorem dX3_nextDay_68 : decode cX3_nextDay 68 = .ok (.iconst 0, 1) := by decide +kernel
theorem dX3_nextDay_69 : decode cX3_nextDay 69 = .ok (.bastore, 1) := by decide +kernel
theorem dX3_nextDay_70 : decode cX3_nextDay 70 = .ok (.iinc 3 1, 3) := by decide +kernel
theorem dX3_nextDay_73 : decode cX3_nextDay 73 = .ok (.goto (-31), 3) := by decide +kernel
theorem dX3_nextDay_76 : decode cX3_nextDay 76 = .ok (.iconst 0, 1) := by decide +kernel
theorem dX3_nextDay_77 : decode cX3_nextDay 77 = .ok (.istore_n 3, 1) := by decide +kernel
theorem dX3_nextDay_78 : decode cX3_nextDay 78 = .ok (.iload_n 3, 1) := by decide +kernel
theorem dX3_nextDay_79 : decode cX3_nextDay 79 = .ok (.aload_n 0, 1) := by decide +kernel
theorem dX3_nextDay_80 : decode cX3_nextDay 80 = .ok (.getfield 61, 3) := by decide +kernel
theorem dX3_nextDay_83 : decode cX3_nextDay 83 = .ok (.if_icmp .ge 30, 3) := by decide +kernel
theorem dX3_nextDay_86 : decode cX3_nextDay 86 = .ok (.aload_n 0, 1) := by decide +kernel
theorem dX3_nextDay_87 : decode cX3_nextDay 87 = .ok (.getfield 32, 3) := by decide +kernel
theorem dX3_nextDay_90 : decode cX3_nextDay 90 = .ok (.iload_n 3, 1) := by decide +kernel
theorem dX3_nextDay_91 : decode cX3_nextDay 91 = .ok (.iconst (-1), 1) := by decide +kernel
theorem dX3_nextDay_92 : decode cX3_nextDay 92 = .ok (.iastore, 1) := by decide +kernel
theorem dX3_nextDay_93 : decode cX3_nextDay 93 = .ok (.aload_n 0, 1) := by decide +kernel
theorem dX3_nextDay_94 : decode cX3_nextDay 94 = .ok (.getfield 35, 3) := by decide +kernel
theorem dX3_nextDay_97 : decode cX3_nextDay 97 = .ok (.iload_n 3, 1) := by decide +kernel
theorem dX3_nextDay_98 : decode cX3_nextDay 98 = .ok (.iconst 0, 1) := by decide +kernel
theorem dX3_nextDay_99 : decode cX3_nextDay 99 = .ok (.bastore, 1) := by decide +kernel
theorem dX3_nextDay_100 : decode cX3_nextDay 100 = .ok (.aload_n 0, 1) := by decide +kernel
theorem dX3_nextDay_101 : decode cX3_nextDay 101 = .ok (.getfield 38, 3) := by decide +kernel
theorem dX3_nextDay_104 : decode cX3_nextDay 104 = .ok (.iload_n 3, 1) := by decide +kernel
theorem dX3_nextDay_105 : decode cX3_nextDay 105 = .ok (.iconst 0, 1) := by decide +kernel
theorem dX3_nextDay_106 : decode cX3_nextDay 106 = .ok (.bastore, 1) := by decide +kernel
theorem dX3_nextDay_107 : decode cX3_nextDay 107 = .ok (.iinc 3 1, 3) := by decide +kernel
theorem dX3_nextDay_110 : decode cX3_nextDay 110 = .ok (.goto (-32), 3) := by decide +kernel
theorem dX3_nextDay_113 : decode cX3_nextDay 113 = .ok (.bipush 10, 2) := by decide +kernel
theorem dX3_nextDay_115 : decode cX3_nextDay 115 = .ok (.istore_n 3, 1) := by decide +kernel
theorem dX3_nextDay_116 : decode cX3_nextDay 116 = .ok (.iload_n 3, 1) := by decide +kernel
theorem dX3_nextDay_117 : decode cX3_nextDay 117 = .ok (.ifCond .lt 49, 3) := by decide +kernel
theorem dX3_nextDay_120 : decode cX3_nextDay 120 = .ok (.iconst 0, 1) := by decide +kernel
theorem dX3_nextDay_121 : decode cX3_nextDay 121 = .ok (.istore 4, 2) := by decide +kernel
theorem dX3_nextDay_123 : decode cX3_nextDay 123 = .ok (.iload 4, 2) := by decide +kernel
theorem dX3_nextDay_125 : decode cX3_nextDay 125 = .ok (.aload_n 0, 1) := by decide +kernel
theorem dX3_nextDay_126 : decode cX3_nextDay 126 = .ok (.getfield 78, 3) := by decide +kernel
theorem dX3_nextDay_129 : decode cX3_nextDay 129 = .ok (.if_icmp .ge 31, 3) := by decide +kernel
theorem dX3_nextDay_132 : decode cX3_nextDay 132 = .ok (.aload_n 0, 1) := by decide +kernel
theorem dX3_nextDay_133 : decode cX3_nextDay 133 = .ok (.getfield 29, 3) := by decide +kernel
theorem dX3_nextDay_136 : decode cX3_nextDay 136 = .ok (.aload_n 0, 1) := by decide +kernel
theorem dX3_nextDay_137 : decode cX3_nextDay 137 = .ok (.getfield 44, 3) := by decide +kernel
theorem dX3_nextDay_140 : decode cX3_nextDay 140 = .ok (.iload 4, 2) := by decide +kernel
theorem dX3_nextDay_142 : decode cX3_nextDay 142 = .ok (.iaload, 1) := by decide +kernel
theorem dX3_nextDay_143 : decode cX3_nextDay 143 = .ok (.iaload, 1) := by decide +kernel
theorem dX3_nextDay_144 : decode cX3_nextDay 144 = .ok (.iload_n 3, 1) := by decide +kernel
theorem dX3_nextDay_145 : decode cX3_nextDay 145 = .ok (.if_icmp .ne 9, 3) := by decide +kernel
theorem dX3_nextDay_148 : decode cX3_nextDay 148 = .ok (.aload_n 0, 1) := by decide +kernel
theorem dX3_nextDay_149 : decode cX3_nextDay 149 = .ok (.iload 4, 2) := by decide +kernel
theorem dX3_nextDay_151 : decode cX3_nextDay 151 = .ok (.invokevirtual 127, 3) := by decide +kernel
theorem dX3_nextDay_154 : decode cX3_nextDay 154 = .ok (.iinc 4 1, 3) := by decide +kernel
theorem dX3_nextDay_157 : decode cX3_nextDay 157 = .ok (.goto (-34), 3) := by decide +kernel
theorem dX3_nextDay_160 : decode cX3_nextDay 160 = .ok (.iinc 3 (-1), 3) := by decide +kernel
theorem dX3_nextDay_163 : decode cX3_nextDay 163 = .ok (.goto (-47), 3) := by decide +kernel
theorem dX3_nextDay_166 : decode cX3_nextDay 166 = .ok (.aload_n 0, 1) := by decide +kernel
theorem dX3_nextDay_167 : decode cX3_nextDay 167 = .ok (.iconst 0, 1) := by decide +kernel
theorem dX3_nextDay_168 : decode cX3_nextDay 168 = .ok (.putfield 78, 3) := by decide +kernel
theorem dX3_nextDay_171 : decode cX3_nextDay 171 = .ok (.aload_n 0, 1) := by decide +kernel
theorem dX3_nextDay_172 : decode cX3_nextDay 172 = .ok (.dup, 1) := by decide +kernel
theorem dX3_nextDay_173 : decode cX3_nextDay 173 = .ok (.getfield 115, 3) := by decide +kernel
theorem dX3_nextDay_176 : decode cX3_nextDay 176 = .ok (.iconst 1, 1) := by decide +kernel
theorem dX3_nextDay_177 : decode cX3_nextDay 177 = .ok (.iadd, 1) := by decide +kernel
theorem dX3_nextDay_178 : decode cX3_nextDay 178 = .ok (.putfield 115, 3) := by decide +kernel
theorem dX3_nextDay_181 : decode cX3_nextDay 181 = .ok (.aload_n 0, 1) := by decide +kernel
theorem dX3_nextDay_182 : decode cX3_nextDay 182 = .ok (.iload_n 1, 1) := by decide +kernel
theorem dX3_nextDay_183 : decode cX3_nextDay 183 = .ok (.invokevirtual 68, 3) := by decide +kernel
theorem dX3_nextDay_186 : decode cX3_nextDay 186 = .ok (.ireturn, 1) := by decide +kernel
theorem dX3_day_0 : decode cX3_day 0 = .ok (.aload_n 0, 1) := by decide +kernel
theorem dX3_day_1 : decode cX3_day 1 = .ok (.aload_n 0, 1) := by decide +kernel
theorem dX3_day_2 : decode cX3_day 2 = .ok (.getfield 115, 3) := by decide +kernel
theorem dX3_day_5 : decode cX3_day 5 = .ok (.invokevirtual 68, 3) := by decide +kernel
theorem dX3_day_8 : decode cX3_day 8 = .ok (.ireturn, 1) := by decide +kernel
theorem dX3_comeIn_0 : decode cX3_comeIn 0 = .ok (.aload_n 0, 1) := by decide +kernel
theorem dX3_comeIn_1 : decode cX3_comeIn 1 = .ok (.iload_n 1, 1) := by decide +kernel
theorem dX3_comeIn_2 : decode cX3_comeIn 2 = .ok (.invokevirtual 75, 3) := by decide +kernel
theorem dX3_comeIn_5 : decode cX3_comeIn 5 = .ok (.ifCond .eq 13, 3) := by decide +kernel
theorem dX3_comeIn_8 : decode cX3_comeIn 8 = .ok (.aload_n 0, 1) := by decide +kernel
theorem dX3_comeIn_9 : decode cX3_comeIn 9 = .ok (.getfield 32, 3) := by decide +kernel
theorem dX3_comeIn_12 : decode cX3_comeIn 12 = .ok (.iload_n 1, 1) := by decide +kernel
theorem dX3_comeIn_13 : decode cX3_comeIn 13 = .ok (.iaload, 1) := by decide +kernel
theorem dX3_comeIn_14 : decode cX3_comeIn 14 = .ok (.iconst (-1), 1) := by decide +kernel
theorem dX3_comeIn_15 : decode cX3_comeIn 15 = .ok (.if_icmp .ne 9, 3) := by decide +kernel
theorem dX3_comeIn_18 : decode cX3_comeIn 18 = .ok (.aload_n 0, 1) := by decide +kernel
theorem dX3_comeIn_19 : decode cX3_comeIn 19 = .ok (.iconst 1, 1) := by decide +kernel
theorem dX3_comeIn_20 : decode cX3_comeIn 20 = .ok (.invokevirtual 64, 3) := by decide +kernel
theorem dX3_comeIn_23 : decode cX3_comeIn 23 = .ok (.ireturn, 1) := by decide +kernel
theorem dX3_comeIn_24 : decode cX3_comeIn 24 = .ok (.aload_n 0, 1) := by decide +kernel
theorem dX3_comeIn_25 : decode cX3_comeIn 25 = .ok (.getfield 35, 3) := by decide +kernel
theorem dX3_comeIn_28 : decode cX3_comeIn 28 = .ok (.iload_n 1, 1) := by decide +kernel
theorem dX3_comeIn_29 : decode cX3_comeIn 29 = .ok (.baload, 1) := by decide +kernel
theorem dX3_comeIn_30 : decode cX3_comeIn 30 = .ok (.ifCond .eq 9, 3) := by decide +kernel
theorem dX3_comeIn_33 : decode cX3_comeIn 33 = .ok (.aload_n 0, 1) := by decide +kernel
theorem dX3_comeIn_34 : decode cX3_comeIn 34 = .ok (.iconst 2, 1) := by decide +kernel
theorem dX3_comeIn_35 : decode cX3_comeIn 35 = .ok (.invokevirtual 64, 3) := by decide +kernel
theorem dX3_comeIn_38 : decode cX3_comeIn 38 = .ok (.ireturn, 1) := by decide +kernel
theorem dX3_comeIn_39 : decode cX3_comeIn 39 = .ok (.aload_n 0, 1) := by decide +kernel
theorem dX3_comeIn_40 : decode cX3_comeIn 40 = .ok (.getfield 35, 3) := by decide +kernel
theorem dX3_comeIn_43 : decode cX3_comeIn 43 = .ok (.iload_n 1, 1) := by decide +kernel
theorem dX3_comeIn_44 : decode cX3_comeIn 44 = .ok (.iconst 1, 1) := by decide +kernel
theorem dX3_comeIn_45 : decode cX3_comeIn 45 = .ok (.bastore, 1) := by decide +kernel
theorem dX3_comeIn_46 : decode cX3_comeIn 46 = .ok (.aload_n 0, 1) := by decide +kernel
theorem dX3_comeIn_47 : decode cX3_comeIn 47 = .ok (.getfield 38, 3) := by decide +kernel
theorem dX3_comeIn_50 : decode cX3_comeIn 50 = .ok (.iload_n 1, 1) := by decide +kernel
theorem dX3_comeIn_51 : decode cX3_comeIn 51 = .ok (.iconst 1, 1) := by decide +kernel
theorem dX3_comeIn_52 : decode cX3_comeIn 52 = .ok (.bastore, 1) := by decide +kernel
theorem dX3_comeIn_53 : decode cX3_comeIn 53 = .ok (.aload_n 0, 1) := by decide +kernel
theorem dX3_comeIn_54 : decode cX3_comeIn 54 = .ok (.aload_n 0, 1) := by decide +kernel
theorem dX3_comeIn_55 : decode cX3_comeIn 55 = .ok (.getfield 32, 3) := by decide +kernel
theorem dX3_comeIn_58 : decode cX3_comeIn 58 = .ok (.iload_n 1, 1) := by decide +kernel
theorem dX3_comeIn_59 : decode cX3_comeIn 59 = .ok (.iaload, 1) := by decide +kernel
theorem dX3_comeIn_60 : decode cX3_comeIn 60 = .ok (.invokevirtual 68, 3) := by decide +kernel
theorem dX3_comeIn_63 : decode cX3_comeIn 63 = .ok (.ireturn, 1) := by decide +kernel
theorem dX3_leave_0 : decode cX3_leave 0 = .ok (.aload_n 0, 1) := by decide +kernel
theorem dX3_leave_1 : decode cX3_leave 1 = .ok (.iload_n 1, 1) := by decide +kernel
theorem dX3_leave_2 : decode cX3_leave 2 = .ok (.invokevirtual 75, 3) := by decide +kernel
theorem dX3_leave_5 : decode cX3_leave 5 = .ok (.ifCond .ne 9, 3) := by decide +kernel
theorem dX3_leave_8 : decode cX3_leave 8 = .ok (.aload_n 0, 1) := by decide +kernel
theorem dX3_leave_9 : decode cX3_leave 9 = .ok (.iconst 1, 1) := by decide +kernel
theorem dX3_leave_10 : decode cX3_leave 10 = .ok (.invokevirtual 64, 3) := by decide +kernel
theorem dX3_leave_13 : decode cX3_leave 13 = .ok (.ireturn, 1) := by decide +kernel
theorem dX3_leave_14 : decode cX3_leave 14 = .ok (.aload_n 0, 1) := by decide +kernel
theorem dX3_leave_15 : decode cX3_leave 15 = .ok (.getfield 35, 3) := by decide +kernel
theorem dX3_leave_18 : decode cX3_leave 18 = .ok (.iload_n 1, 1) := by decide +kernel
theorem dX3_leave_19 : decode cX3_leave 19 = .ok (.baload, 1) := by decide +kernel
theorem dX3_leave_20 : decode cX3_leave 20 = .ok (.ifCond .ne 9, 3) := by decide +kernel
theorem dX3_leave_23 : decode cX3_leave 23 = .ok (.aload_n 0, 1) := by decide +kernel
theorem dX3_leave_24 : decode cX3_leave 24 = .ok (.iconst 2, 1) := by decide +kernel
theorem dX3_leave_25 : decode cX3_leave 25 = .ok (.invokevirtual 64, 3) := by decide +kernel
theorem dX3_leave_28 : decode cX3_leave 28 = .ok (.ireturn, 1) := by decide +kernel
theorem dX3_leave_29 : decode cX3_leave 29 = .ok (.aload_n 0, 1) := by decide +kernel
theorem dX3_leave_30 : decode cX3_leave 30 = .ok (.getfield 35, 3) := by decide +kernel
theorem dX3_leave_33 : decode cX3_leave 33 = .ok (.iload_n 1, 1) := by decide +kernel
theorem dX3_leave_34 : decode cX3_leave 34 = .ok (.iconst 0, 1) := by decide +kernel
theorem dX3_leave_35 : decode cX3_leave 35 = .ok (.bastore, 1) := by decide +kernel
theorem dX3_leave_36 : decode cX3_leave 36 = .ok (.iconst 0, 1) := by decide +kernel
theorem dX3_leave_37 : decode cX3_leave 37 = .ok (.istore_n 2, 1) := by decide +kernel
theorem dX3_leave_38 : decode cX3_leave 38 = .ok (.iconst 0, 1) := by decide +kernel
theorem dX3_leave_39 : decode cX3_leave 39 = .ok (.istore_n 3, 1) := by decide +kernel
theorem dX3_leave_40 : decode cX3_leave 40 = .ok (.iload_n 3, 1) := by decide +kernel
theorem dX3_leave_41 : decode cX3_leave 41 = .ok (.aload_n 0, 1) := by decide +kernel
theorem dX3_leave_42 : decode cX3_leave 42 = .ok (.getfield 61, 3) := by decide +kernel
theorem dX3_leave_45 : decode cX3_leave 45 = .ok (.if_icmp .ge 26, 3) := by decide +kernel
theorem dX3_leave_48 : decode cX3_leave 48 = .ok (.iload_n 2, 1) := by decide +kernel
theorem dX3_leave_49 : decode cX3_leave 49 = .ok (.aload_n 0, 1) := by decide +kernel
theorem dX3_leave_50 : decode cX3_leave 50 = .ok (.getfield 35, 3) := by decide +kernel
theorem dX3_leave_53 : decode cX3_leave 53 = .ok (.iload_n 3, 1) := by decide +kernel
theorem dX3_leave_54 : decode cX3_leave 54 = .ok (.baload, 1) := by decide +kernel
theorem dX3_leave_55 : decode cX3_leave 55 = .ok (.ifCond .eq 7, 3) := by decide +kernel
theorem dX3_leave_58 : decode cX3_leave 58 = .ok (.iconst 1, 1) := by decide +kernel
theorem dX3_leave_59 : decode cX3_leave 59 = .ok (.goto 4, 3) := by decide +kernel
theorem dX3_leave_62 : decode cX3_leave 62 = .ok (.iconst 0, 1) := by decide +kernel
theorem dX3_leave_63 : decode cX3_leave 63 = .ok (.iadd, 1) := by decide +kernel
theorem dX3_leave_64 : decode cX3_leave 64 = .ok (.istore_n 2, 1) := by decide +kernel
theorem dX3_leave_65 : decode cX3_leave 65 = .ok (.iinc 3 1, 3) := by decide +kernel
theorem dX3_leave_68 : decode cX3_leave 68 = .ok (.goto (-28), 3) := by decide +kernel
theorem dX3_leave_71 : decode cX3_leave 71 = .ok (.aload_n 0, 1) := by decide +kernel
theorem dX3_leave_72 : decode cX3_leave 72 = .ok (.iload_n 2, 1) := by decide +kernel
theorem dX3_leave_73 : decode cX3_leave 73 = .ok (.invokevirtual 68, 3) := by decide +kernel
theorem dX3_leave_76 : decode cX3_leave 76 = .ok (.ireturn, 1) := by decide +kernel
theorem dX3_seatOf_0 : decode cX3_seatOf 0 = .ok (.aload_n 0, 1) := by decide +kernel
theorem dX3_seatOf_1 : decode cX3_seatOf 1 = .ok (.iload_n 1, 1) := by decide +kernel
theorem dX3_seatOf_2 : decode cX3_seatOf 2 = .ok (.invokevirtual 75, 3) := by decide +kernel
theorem dX3_seatOf_5 : decode cX3_seatOf 5 = .ok (.ifCond .eq 16, 3) := by decide +kernel
theorem dX3_seatOf_8 : decode cX3_seatOf 8 = .ok (.aload_n 0, 1) := by decide +kernel
theorem dX3_seatOf_9 : decode cX3_seatOf 9 = .ok (.aload_n 0, 1) := by decide +kernel
theorem dX3_seatOf_10 : decode cX3_seatOf 10 = .ok (.getfield 32, 3) := by decide +kernel
theorem dX3_seatOf_13 : decode cX3_seatOf 13 = .ok (.iload_n 1, 1) := by decide +kernel
theorem dX3_seatOf_14 : decode cX3_seatOf 14 = .ok (.iaload, 1) := by decide +kernel
theorem dX3_seatOf_15 : decode cX3_seatOf 15 = .ok (.invokevirtual 68, 3) := by decide +kernel
theorem dX3_seatOf_18 : decode cX3_seatOf 18 = .ok (.goto 8, 3) := by decide +kernel
theorem dX3_seatOf_21 : decode cX3_seatOf 21 = .ok (.aload_n 0, 1) := by decide +kernel
theorem dX3_seatOf_22 : decode cX3_seatOf 22 = .ok (.iconst 1, 1) := by decide +kernel
theorem dX3_seatOf_23 : decode cX3_seatOf 23 = .ok (.invokevirtual 64, 3) := by decide +kernel
theorem dX3_seatOf_26 : decode cX3_seatOf 26 = .ok (.ireturn, 1) := by decide +kernel
theorem dX3_isIn_0 : decode cX3_isIn 0 = .ok (.aload_n 0, 1) := by decide +kernel
theorem dX3_isIn_1 : decode cX3_isIn 1 = .ok (.aload_n 0, 1) := by decide +kernel
theorem dX3_isIn_2 : decode cX3_isIn 2 = .ok (.iload_n 1, 1) := by decide +kernel
theorem dX3_isIn_3 : decode cX3_isIn 3 = .ok (.invokevirtual 75, 3) := by decide +kernel
theorem dX3_isIn_6 : decode cX3_isIn 6 = .ok (.ifCond .eq 7, 3) := by decide +kernel
theorem dX3_isIn_9 : decode cX3_isIn 9 = .ok (.iconst 0, 1) := by decide +kernel
theorem dX3_isIn_10 : decode cX3_isIn 10 = .ok (.goto 4, 3) := by decide +kernel
theorem dX3_isIn_13 : decode cX3_isIn 13 = .ok (.iconst 1, 1) := by decide +kernel
theorem dX3_isIn_14 : decode cX3_isIn 14 = .ok (.aload_n 0, 1) := by decide +kernel
theorem dX3_isIn_15 : decode cX3_isIn 15 = .ok (.iload_n 1, 1) := by decide +kernel
theorem dX3_isIn_16 : decode cX3_isIn 16 = .ok (.invokevirtual 75, 3) := by decide +kernel
theorem dX3_isIn_19 : decode cX3_isIn 19 = .ok (.ifCond .eq 16, 3) := by decide +kernel
theorem dX3_isIn_22 : decode cX3_isIn 22 = .ok (.aload_n 0, 1) := by decide +kernel
theorem dX3_isIn_23 : decode cX3_isIn 23 = .ok (.getfield 35, 3) := by decide +kernel
theorem dX3_isIn_26 : decode cX3_isIn 26 = .ok (.iload_n 1, 1) := by decide +kernel
theorem dX3_isIn_27 : decode cX3_isIn 27 = .ok (.baload, 1) := by decide +kernel
theorem dX3_isIn_28 : decode cX3_isIn 28 = .ok (.ifCond .eq 7, 3) := by decide +kernel
theorem dX3_isIn_31 : decode cX3_isIn 31 = .ok (.iconst 1, 1) := by decide +kernel
theorem dX3_isIn_32 : decode cX3_isIn 32 = .ok (.goto 4, 3) := by decide +kernel
theorem dX3_isIn_35 : decode cX3_isIn 35 = .ok (.iconst 0, 1) := by decide +kernel
theorem dX3_isIn_36 : decode cX3_isIn 36 = .ok (.invokevirtual 131, 3) := by decide +kernel
theorem dX3_isIn_39 : decode cX3_isIn 39 = .ok (.ireturn, 1) := by decide +kernel
theorem dX3_isOpen_0 : decode cX3_isOpen 0 = .ok (.aload_n 0, 1) := by decide +kernel
theorem dX3_isOpen_1 : decode cX3_isOpen 1 = .ok (.aload_n 0, 1) := by decide +kernel
theorem dX3_isOpen_2 : decode cX3_isOpen 2 = .ok (.iload_n 1, 1) := by decide +kernel
theorem dX3_isOpen_3 : decode cX3_isOpen 3 = .ok (.invokevirtual 71, 3) := by decide +kernel
theorem dX3_isOpen_6 : decode cX3_isOpen 6 = .ok (.ifCond .eq 7, 3) := by decide +kernel
theorem dX3_isOpen_9 : decode cX3_isOpen 9 = .ok (.iconst 0, 1) := by decide +kernel
theorem dX3_isOpen_10 : decode cX3_isOpen 10 = .ok (.goto 4, 3) := by decide +kernel
theorem dX3_isOpen_13 : decode cX3_isOpen 13 = .ok (.iconst 1, 1) := by decide +kernel
theorem dX3_isOpen_14 : decode cX3_isOpen 14 = .ok (.aload_n 0, 1) := by decide +kernel
theorem dX3_isOpen_15 : decode cX3_isOpen 15 = .ok (.iload_n 1, 1) := by decide +kernel
theorem dX3_isOpen_16 : decode cX3_isOpen 16 = .ok (.invokevirtual 71, 3) := by decide +kernel
theorem dX3_isOpen_19 : decode cX3_isOpen 19 = .ok (.ifCond .eq 16, 3) := by decide +kernel
theorem dX3_isOpen_22 : decode cX3_isOpen 22 = .ok (.aload_n 0, 1) := by decide +kernel
theorem dX3_isOpen_23 : decode cX3_isOpen 23 = .ok (.getfield 22, 3) := by decide +kernel
theorem dX3_isOpen_26 : decode cX3_isOpen 26 = .ok (.iload_n 1, 1) := by decide +kernel
theorem dX3_isOpen_27 : decode cX3_isOpen 27 = .ok (.baload, 1) := by decide +kernel
theorem dX3_isOpen_28 : decode cX3_isOpen 28 = .ok (.ifCond .eq 7, 3) := by decide +kernel
theorem dX3_isOpen_31 : decode cX3_isOpen 31 = .ok (.iconst 1, 1) := by decide +kernel
theorem dX3_isOpen_32 : decode cX3_isOpen 32 = .ok (.goto 4, 3) := by decide +kernel
theorem dX3_isOpen_35 : decode cX3_isOpen 35 = .ok (.iconst 0, 1) := by decide +kernel
theorem dX3_isOpen_36 : decode cX3_isOpen 36 = .ok (.invokevirtual 131, 3) := by decide +kernel
theorem dX3_isOpen_39 : decode cX3_isOpen 39 = .ok (.ireturn, 1) := by decide +kernel
theorem dX3_seated_0 : decode cX3_seated 0 = .ok (.aload_n 0, 1) := by decide +kernel
theorem dX3_seated_1 : decode cX3_seated 1 = .ok (.iload_n 2, 1) := by decide +kernel
theorem dX3_seated_2 : decode cX3_seated 2 = .ok (.invokevirtual 71, 3) := by decide +kernel
theorem dX3_seated_5 : decode cX3_seated 5 = .ok (.ifCond .ne 9, 3) := by decide +kernel
theorem dX3_seated_8 : decode cX3_seated 8 = .ok (.aload_n 0, 1) := by decide +kernel
theorem dX3_seated_9 : decode cX3_seated 9 = .ok (.iconst 1, 1) := by decide +kernel
theorem dX3_seated_10 : decode cX3_seated 10 = .ok (.invokevirtual 64, 3) := by decide +kernel
theorem dX3_seated_13 : decode cX3_seated 13 = .ok (.ireturn, 1) := by decide +kernel
theorem dX3_seated_14 : decode cX3_seated 14 = .ok (.iload_n 1, 1) := by decide +kernel
theorem dX3_seated_15 : decode cX3_seated 15 = .ok (.iconst 0, 1) := by decide +kernel
theorem dX3_seated_16 : decode cX3_seated 16 = .ok (.iconst 3, 1) := by decide +kernel
theorem dX3_seated_17 : decode cX3_seated 17 = .ok (.invokestatic 57, 3) := by decide +kernel
theorem dX3_seated_20 : decode cX3_seated 20 = .ok (.ifCond .eq 16, 3) := by decide +kernel
theorem dX3_seated_23 : decode cX3_seated 23 = .ok (.aload_n 0, 1) := by decide +kernel
theorem dX3_seated_24 : decode cX3_seated 24 = .ok (.aload_n 0, 1) := by decide +kernel
theorem dX3_seated_25 : decode cX3_seated 25 = .ok (.iload_n 2, 1) := by decide +kernel
theorem dX3_seated_26 : decode cX3_seated 26 = .ok (.iload_n 1, 1) := by decide +kernel
theorem dX3_seated_27 : decode cX3_seated 27 = .ok (.invokevirtual 109, 3) := by decide +kernel
theorem dX3_seated_30 : decode cX3_seated 30 = .ok (.invokevirtual 68, 3) := by decide +kernel
theorem dX3_seated_33 : decode cX3_seated 33 = .ok (.goto 8, 3) := by decide +kernel
theorem dX3_seated_36 : decode cX3_seated 36 = .ok (.aload_n 0, 1) := by decide +kernel
theorem dX3_seated_37 : decode cX3_seated 37 = .ok (.iconst 2, 1) := by decide +kernel
theorem dX3_seated_38 : decode cX3_seated 38 = .ok (.invokevirtual 64, 3) := by decide +kernel
theorem dX3_seated_41 : decode cX3_seated 41 = .ok (.ireturn, 1) := by decide +kernel
theorem dX3_inside_0 : decode cX3_inside 0 = .ok (.iconst 0, 1) := by decide +kernel
theorem dX3_inside_1 : decode cX3_inside 1 = .ok (.istore_n 2, 1) := by decide +kernel
theorem dX3_inside_2 : decode cX3_inside 2 = .ok (.iconst 0, 1) := by decide +kernel
theorem dX3_inside_3 : decode cX3_inside 3 = .ok (.istore_n 3, 1) := by decide +kernel
theorem dX3_inside_4 : decode cX3_inside 4 = .ok (.iload_n 3, 1) := by decide +kernel
theorem dX3_inside_5 : decode cX3_inside 5 = .ok (.aload_n 0, 1) := by decide +kernel
theorem dX3_inside_6 : decode cX3_inside 6 = .ok (.getfield 61, 3) := by decide +kernel
theorem dX3_inside_9 : decode cX3_inside 9 = .ok (.if_icmp .ge 36, 3) := by decide +kernel
theorem dX3_inside_12 : decode cX3_inside 12 = .ok (.iload_n 2, 1) := by decide +kernel
theorem dX3_inside_13 : decode cX3_inside 13 = .ok (.aload_n 0, 1) := by decide +kernel
theorem dX3_inside_14 : decode cX3_inside 14 = .ok (.getfield 35, 3) := by decide +kernel
theorem dX3_inside_17 : decode cX3_inside 17 = .ok (.iload_n 3, 1) := by decide +kernel
theorem dX3_inside_18 : decode cX3_inside 18 = .ok (.baload, 1) := by decide +kernel
theorem dX3_inside_19 : decode cX3_inside 19 = .ok (.ifCond .eq 17, 3) := by decide +kernel
theorem dX3_inside_22 : decode cX3_inside 22 = .ok (.aload_n 0, 1) := by decide +kernel
theorem dX3_inside_23 : decode cX3_inside 23 = .ok (.getfield 32, 3) := by decide +kernel
theorem dX3_inside_26 : decode cX3_inside 26 = .ok (.iload_n 3, 1) := by decide +kernel
theorem dX3_inside_27 : decode cX3_inside 27 = .ok (.iaload, 1) := by decide +kernel
theorem dX3_inside_28 : decode cX3_inside 28 = .ok (.iload_n 1, 1) := by decide +kernel
theorem dX3_inside_29 : decode cX3_inside 29 = .ok (.if_icmp .ne 7, 3) := by decide +kernel
theorem dX3_inside_32 : decode cX3_inside 32 = .ok (.iconst 1, 1) := by decide +kernel
theorem dX3_inside_33 : decode cX3_inside 33 = .ok (.goto 4, 3) := by decide +kernel
theorem dX3_inside_36 : decode cX3_inside 36 = .ok (.iconst 0, 1) := by decide +kernel
theorem dX3_inside_37 : decode cX3_inside 37 = .ok (.iadd, 1) := by decide +kernel
theorem dX3_inside_38 : decode cX3_inside 38 = .ok (.istore_n 2, 1) := by decide +kernel
theorem dX3_inside_39 : decode cX3_inside 39 = .ok (.iinc 3 1, 3) := by decide +kernel
theorem dX3_inside_42 : decode cX3_inside 42 = .ok (.goto (-38), 3) := by decide +kernel
theorem dX3_inside_45 : decode cX3_inside 45 = .ok (.iload_n 2, 1) := by decide +kernel
theorem dX3_inside_46 : decode cX3_inside 46 = .ok (.ireturn, 1) := by decide +kernel
theorem dX3_hour_0 : decode cX3_hour 0 = .ok (.aload_n 0, 1) := by decide +kernel
theorem dX3_hour_1 : decode cX3_hour 1 = .ok (.iload_n 1, 1) := by decide +kernel
theorem dX3_hour_2 : decode cX3_hour 2 = .ok (.invokevirtual 135, 3) := by decide +kernel
theorem dX3_hour_5 : decode cX3_hour 5 = .ok (.istore_n 2, 1) := by decide +kernel
theorem dX3_hour_6 : decode cX3_hour 6 = .ok (.aload_n 0, 1) := by decide +kernel
theorem dX3_hour_7 : decode cX3_hour 7 = .ok (.getfield 22, 3) := by decide +kernel
theorem dX3_hour_10 : decode cX3_hour 10 = .ok (.iload_n 1, 1) := by decide +kernel
theorem dX3_hour_11 : decode cX3_hour 11 = .ok (.baload, 1) := by decide +kernel
theorem dX3_hour_12 : decode cX3_hour 12 = .ok (.ifCond .eq 13, 3) := by decide +kernel
theorem dX3_hour_15 : decode cX3_hour 15 = .ok (.sipush 210, 3) := by decide +kernel
theorem dX3_hour_18 : decode cX3_hour 18 = .ok (.iconst 4, 1) := by decide +kernel
theorem dX3_hour_19 : decode cX3_hour 19 = .ok (.iload_n 2, 1) := by decide +kernel
theorem dX3_hour_20 : decode cX3_hour 20 = .ok (.imul, 1) := by decide +kernel
theorem dX3_hour_21 : decode cX3_hour 21 = .ok (.iadd, 1) := by decide +kernel
theorem dX3_hour_22 : decode cX3_hour 22 = .ok (.goto 6, 3) := by decide +kernel
theorem dX3_hour_25 : decode cX3_hour 25 = .ok (.sipush 150, 3) := by decide +kernel
theorem dX3_hour_28 : decode cX3_hour 28 = .ok (.istore_n 3, 1) := by decide +kernel
theorem dX3_hour_29 : decode cX3_hour 29 = .ok (.iload_n 3, 1) := by decide +kernel
theorem dX3_hour_30 : decode cX3_hour 30 = .ok (.aload_n 0, 1) := by decide +kernel
theorem dX3_hour_31 : decode cX3_hour 31 = .ok (.getfield 16, 3) := by decide +kernel
theorem dX3_hour_34 : decode cX3_hour 34 = .ok (.iload_n 1, 1) := by decide +kernel
theorem dX3_hour_35 : decode cX3_hour 35 = .ok (.iaload, 1) := by decide +kernel
theorem dX3_hour_36 : decode cX3_hour 36 = .ok (.isub, 1) := by decide +kernel
theorem dX3_hour_37 : decode cX3_hour 37 = .ok (.iconst 4, 1) := by decide +kernel
theorem dX3_hour_38 : decode cX3_hour 38 = .ok (.idiv, 1) := by decide +kernel
theorem dX3_hour_39 : decode cX3_hour 39 = .ok (.istore 4, 2) := by decide +kernel
theorem dX3_hour_41 : decode cX3_hour 41 = .ok (.aload_n 0, 1) := by decide +kernel
theorem dX3_hour_42 : decode cX3_hour 42 = .ok (.getfield 16, 3) := by decide +kernel
theorem dX3_hour_45 : decode cX3_hour 45 = .ok (.iload_n 1, 1) := by decide +kernel
theorem dX3_hour_46 : decode cX3_hour 46 = .ok (.dup2, 1) := by decide +kernel
theorem dX3_hour_47 : decode cX3_hour 47 = .ok (.iaload, 1) := by decide +kernel
theorem dX3_hour_48 : decode cX3_hour 48 = .ok (.iload 4, 2) := by decide +kernel
theorem dX3_hour_50 : decode cX3_hour 50 = .ok (.iadd, 1) := by decide +kernel
theorem dX3_hour_51 : decode cX3_hour 51 = .ok (.iastore, 1) := by decide +kernel
theorem dX3_hour_52 : decode cX3_hour 52 = .ok (.aload_n 0, 1) := by decide +kernel
theorem dX3_hour_53 : decode cX3_hour 53 = .ok (.getfield 19, 3) := by decide +kernel
theorem dX3_hour_56 : decode cX3_hour 56 = .ok (.iload_n 1, 1) := by decide +kernel
theorem dX3_hour_57 : decode cX3_hour 57 = .ok (.iaload, 1) := by decide +kernel
theorem dX3_hour_58 : decode cX3_hour 58 = .ok (.bipush 25, 2) := by decide +kernel
theorem dX3_hour_60 : decode cX3_hour 60 = .ok (.iload_n 2, 1) := by decide +kernel
theorem dX3_hour_61 : decode cX3_hour 61 = .ok (.imul, 1) := by decide +kernel
theorem dX3_hour_62 : decode cX3_hour 62 = .ok (.iadd, 1) := by decide +kernel
theorem dX3_hour_63 : decode cX3_hour 63 = .ok (.aload_n 0, 1) := by decide +kernel
theorem dX3_hour_64 : decode cX3_hour 64 = .ok (.getfield 22, 3) := by decide +kernel
theorem dX3_hour_67 : decode cX3_hour 67 = .ok (.iload_n 1, 1) := by decide +kernel
theorem dX3_hour_68 : decode cX3_hour 68 = .ok (.baload, 1) := by decide +kernel
theorem dX3_hour_69 : decode cX3_hour 69 = .ok (.ifCond .eq 8, 3) := by decide +kernel
theorem dX3_hour_72 : decode cX3_hour 72 = .ok (.bipush 30, 2) := by decide +kernel
theorem dX3_hour_74 : decode cX3_hour 74 = .ok (.goto 5, 3) := by decide +kernel
theorem dX3_hour_77 : decode cX3_hour 77 = .ok (.bipush 10, 2) := by decide +kernel
theorem dX3_hour_79 : decode cX3_hour 79 = .ok (.isub, 1) := by decide +kernel
theorem dX3_hour_80 : decode cX3_hour 80 = .ok (.istore 5, 2) := by decide +kernel
theorem dX3_hour_82 : decode cX3_hour 82 = .ok (.aload_n 0, 1) := by decide +kernel
theorem dX3_hour_83 : decode cX3_hour 83 = .ok (.getfield 19, 3) := by decide +kernel
theorem dX3_hour_86 : decode cX3_hour 86 = .ok (.iload_n 1, 1) := by decide +kernel
theorem dX3_hour_87 : decode cX3_hour 87 = .ok (.iload 5, 2) := by decide +kernel
theorem dX3_hour_89 : decode cX3_hour 89 = .ok (.sipush 400, 3) := by decide +kernel
theorem dX3_hour_92 : decode cX3_hour 92 = .ok (.if_icmp .ge 9, 3) := by decide +kernel
theorem dX3_hour_95 : decode cX3_hour 95 = .ok (.sipush 400, 3) := by decide +kernel
theorem dX3_hour_98 : decode cX3_hour 98 = .ok (.goto 5, 3) := by decide +kernel
theorem dX3_hour_101 : decode cX3_hour 101 = .ok (.iload 5, 2) := by decide +kernel
theorem dX3_hour_103 : decode cX3_hour 103 = .ok (.iastore, 1) := by decide +kernel
theorem dX3_hour_104 : decode cX3_hour 104 = .ok (.aload_n 0, 1) := by decide +kernel
theorem dX3_hour_105 : decode cX3_hour 105 = .ok (.dup, 1) := by decide +kernel
theorem dX3_hour_106 : decode cX3_hour 106 = .ok (.getfield 138, 3) := by decide +kernel
theorem dX3_hour_109 : decode cX3_hour 109 = .ok (.iload_n 2, 1) := by decide +kernel
theorem dX3_hour_110 : decode cX3_hour 110 = .ok (.aload_n 0, 1) := by decide +kernel
theorem dX3_hour_111 : decode cX3_hour 111 = .ok (.getfield 16, 3) := by decide +kernel
theorem dX3_hour_114 : decode cX3_hour 114 = .ok (.iload_n 1, 1) := by decide +kernel
theorem dX3_hour_115 : decode cX3_hour 115 = .ok (.iaload, 1) := by decide +kernel
theorem dX3_hour_116 : decode cX3_hour 116 = .ok (.sipush 215, 3) := by decide +kernel
theorem dX3_hour_119 : decode cX3_hour 119 = .ok (.invokestatic 87, 3) := by decide +kernel
theorem dX3_hour_122 : decode cX3_hour 122 = .ok (.bipush 10, 2) := by decide +kernel
theorem dX3_hour_124 : decode cX3_hour 124 = .ok (.idiv, 1) := by decide +kernel
theorem dX3_hour_125 : decode cX3_hour 125 = .ok (.aload_n 0, 1) := by decide +kernel
theorem dX3_hour_126 : decode cX3_hour 126 = .ok (.getfield 19, 3) := by decide +kernel
theorem dX3_hour_129 : decode cX3_hour 129 = .ok (.iload_n 1, 1) := by decide +kernel
theorem dX3_hour_130 : decode cX3_hour 130 = .ok (.iaload, 1) := by decide +kernel
theorem dX3_hour_131 : decode cX3_hour 131 = .ok (.sipush 500, 3) := by decide +kernel
theorem dX3_hour_134 : decode cX3_hour 134 = .ok (.if_icmp .le 7, 3) := by decide +kernel
theorem dX3_hour_137 : decode cX3_hour 137 = .ok (.iconst 1, 1) := by decide +kernel
theorem dX3_hour_138 : decode cX3_hour 138 = .ok (.goto 4, 3) := by decide +kernel
theorem dX3_hour_141 : decode cX3_hour 141 = .ok (.iconst 0, 1) := by decide +kernel
theorem dX3_hour_142 : decode cX3_hour 142 = .ok (.iadd, 1) := by decide +kernel
theorem dX3_hour_143 : decode cX3_hour 143 = .ok (.imul, 1) := by decide +kernel
theorem dX3_hour_144 : decode cX3_hour 144 = .ok (.i2l, 1) := by decide +kernel
theorem dX3_hour_145 : decode cX3_hour 145 = .ok (.ladd, 1) := by decide +kernel
theorem dX3_hour_146 : decode cX3_hour 146 = .ok (.putfield 138, 3) := by decide +kernel
theorem dX3_hour_149 : decode cX3_hour 149 = .ok (.aload_n 0, 1) := by decide +kernel
theorem dX3_hour_150 : decode cX3_hour 150 = .ok (.getfield 22, 3) := by decide +kernel
theorem dX3_hour_153 : decode cX3_hour 153 = .ok (.iload_n 1, 1) := by decide +kernel
theorem dX3_hour_154 : decode cX3_hour 154 = .ok (.baload, 1) := by decide +kernel
theorem dX3_hour_155 : decode cX3_hour 155 = .ok (.ifCond .eq 12, 3) := by decide +kernel
theorem dX3_hour_158 : decode cX3_hour 158 = .ok (.iload 4, 2) := by decide +kernel
theorem dX3_hour_160 : decode cX3_hour 160 = .ok (.iconst 0, 1) := by decide +kernel
theorem dX3_hour_161 : decode cX3_hour 161 = .ok (.invokestatic 87, 3) := by decide +kernel
theorem dX3_hour_164 : decode cX3_hour 164 = .ok (.goto 4, 3) := by decide +kernel
theorem dX3_hour_167 : decode cX3_hour 167 = .ok (.iconst 0, 1) := by decide +kernel
theorem dX3_hour_168 : decode cX3_hour 168 = .ok (.ireturn, 1) := by decide +kernel
theorem dX3_pass_0 : decode cX3_pass 0 = .ok (.iload_n 1, 1) := by decide +kernel
theorem dX3_pass_1 : decode cX3_pass 1 = .ok (.iconst 1, 1) := by decide +kernel
theorem dX3_pass_2 : decode cX3_pass 2 = .ok (.bipush 24, 2) := by decide +kernel
theorem dX3_pass_4 : decode cX3_pass 4 = .ok (.invokestatic 57, 3) := by decide +kernel
theorem dX3_pass_7 : decode cX3_pass 7 = .ok (.ifCond .ne 9, 3) := by decide +kernel
theorem dX3_pass_10 : decode cX3_pass 10 = .ok (.aload_n 0, 1) := by decide +kernel
theorem dX3_pass_11 : decode cX3_pass 11 = .ok (.iconst 1, 1) := by decide +kernel
theorem dX3_pass_12 : decode cX3_pass 12 = .ok (.invokevirtual 64, 3) := by decide +kernel
theorem dX3_pass_15 : decode cX3_pass 15 = .ok (.ireturn, 1) := by decide +kernel
theorem dX3_pass_16 : decode cX3_pass 16 = .ok (.iconst 0, 1) := by decide +kernel
theorem dX3_pass_17 : decode cX3_pass 17 = .ok (.istore_n 2, 1) := by decide +kernel
theorem dX3_pass_18 : decode cX3_pass 18 = .ok (.iconst 0, 1) := by decide +kernel
theorem dX3_pass_19 : decode cX3_pass 19 = .ok (.istore_n 3, 1) := by decide +kernel
theorem dX3_pass_20 : decode cX3_pass 20 = .ok (.iload_n 3, 1) := by decide +kernel
theorem dX3_pass_21 : decode cX3_pass 21 = .ok (.iload_n 1, 1) := by decide +kernel
theorem dX3_pass_22 : decode cX3_pass 22 = .ok (.if_icmp .ge 36, 3) := by decide +kernel
theorem dX3_pass_25 : decode cX3_pass 25 = .ok (.iconst 0, 1) := by decide +kernel
theorem dX3_pass_26 : decode cX3_pass 26 = .ok (.istore 4, 2) := by decide +kernel
theorem dX3_pass_28 : decode cX3_pass 28 = .ok (.iload 4, 2) := by decide +kernel
theorem dX3_pass_30 : decode cX3_pass 30 = .ok (.aload_n 0, 1) := by decide +kernel
theorem dX3_pass_31 : decode cX3_pass 31 = .ok (.getfield 54, 3) := by decide +kernel
theorem dX3_pass_34 : decode cX3_pass 34 = .ok (.if_icmp .ge 18, 3) := by decide +kernel
theorem dX3_pass_37 : decode cX3_pass 37 = .ok (.iload_n 2, 1) := by decide +kernel
theorem dX3_pass_38 : decode cX3_pass 38 = .ok (.aload_n 0, 1) := by decide +kernel
theorem dX3_pass_39 : decode cX3_pass 39 = .ok (.iload 4, 2) := by decide +kernel
theorem dX3_pass_41 : decode cX3_pass 41 = .ok (.invokevirtual 141, 3) := by decide +kernel
theorem dX3_pass_44 : decode cX3_pass 44 = .ok (.iadd, 1) := by decide +kernel
theorem dX3_pass_45 : decode cX3_pass 45 = .ok (.istore_n 2, 1) := by decide +kernel
theorem dX3_pass_46 : decode cX3_pass 46 = .ok (.iinc 4 1, 3) := by decide +kernel
theorem dX3_pass_49 : decode cX3_pass 49 = .ok (.goto (-21), 3) := by decide +kernel
theorem dX3_pass_52 : decode cX3_pass 52 = .ok (.iinc 3 1, 3) := by decide +kernel
theorem dX3_pass_55 : decode cX3_pass 55 = .ok (.goto (-35), 3) := by decide +kernel
theorem dX3_pass_58 : decode cX3_pass 58 = .ok (.aload_n 0, 1) := by decide +kernel
theorem dX3_pass_59 : decode cX3_pass 59 = .ok (.dup, 1) := by decide +kernel
theorem dX3_pass_60 : decode cX3_pass 60 = .ok (.getfield 144, 3) := by decide +kernel
theorem dX3_pass_63 : decode cX3_pass 63 = .ok (.iload_n 2, 1) := by decide +kernel
theorem dX3_pass_64 : decode cX3_pass 64 = .ok (.i2l, 1) := by decide +kernel
theorem dX3_pass_65 : decode cX3_pass 65 = .ok (.ladd, 1) := by decide +kernel
theorem dX3_pass_66 : decode cX3_pass 66 = .ok (.putfield 144, 3) := by decide +kernel
theorem dX3_pass_69 : decode cX3_pass 69 = .ok (.aload_n 0, 1) := by decide +kernel
theorem dX3_pass_70 : decode cX3_pass 70 = .ok (.iload_n 2, 1) := by decide +kernel
theorem dX3_pass_71 : decode cX3_pass 71 = .ok (.invokevirtual 68, 3) := by decide +kernel
theorem dX3_pass_74 : decode cX3_pass 74 = .ok (.ireturn, 1) := by decide +kernel
theorem dX3_warmth_0 : decode cX3_warmth 0 = .ok (.aload_n 0, 1) := by decide +kernel
theorem dX3_warmth_1 : decode cX3_warmth 1 = .ok (.iload_n 1, 1) := by decide +kernel
theorem dX3_warmth_2 : decode cX3_warmth 2 = .ok (.invokevirtual 71, 3) := by decide +kernel
theorem dX3_warmth_5 : decode cX3_warmth 5 = .ok (.ifCond .eq 16, 3) := by decide +kernel
theorem dX3_warmth_8 : decode cX3_warmth 8 = .ok (.aload_n 0, 1) := by decide +kernel
theorem dX3_warmth_9 : decode cX3_warmth 9 = .ok (.aload_n 0, 1) := by decide +kernel
theorem dX3_warmth_10 : decode cX3_warmth 10 = .ok (.getfield 16, 3) := by decide +kernel
theorem dX3_warmth_13 : decode cX3_warmth 13 = .ok (.iload_n 1, 1) := by decide +kernel
theorem dX3_warmth_14 : decode cX3_warmth 14 = .ok (.iaload, 1) := by decide +kernel
theorem dX3_warmth_15 : decode cX3_warmth 15 = .ok (.invokevirtual 68, 3) := by decide +kernel
theorem dX3_warmth_18 : decode cX3_warmth 18 = .ok (.goto 8, 3) := by decide +kernel
theorem dX3_warmth_21 : decode cX3_warmth 21 = .ok (.aload_n 0, 1) := by decide +kernel
theorem dX3_warmth_22 : decode cX3_warmth 22 = .ok (.iconst 1, 1) := by decide +kernel
theorem dX3_warmth_23 : decode cX3_warmth 23 = .ok (.invokevirtual 64, 3) := by decide +kernel
theorem dX3_warmth_26 : decode cX3_warmth 26 = .ok (.ireturn, 1) := by decide +kernel
theorem dX3_air_0 : decode cX3_air 0 = .ok (.aload_n 0, 1) := by decide +kernel
theorem dX3_air_1 : decode cX3_air 1 = .ok (.iload_n 1, 1) := by decide +kernel
theorem dX3_air_2 : decode cX3_air 2 = .ok (.invokevirtual 71, 3) := by decide +kernel
theorem dX3_air_5 : decode cX3_air 5 = .ok (.ifCond .eq 16, 3) := by decide +kernel
theorem dX3_air_8 : decode cX3_air 8 = .ok (.aload_n 0, 1) := by decide +kernel
theorem dX3_air_9 : decode cX3_air 9 = .ok (.aload_n 0, 1) := by decide +kernel
theorem dX3_air_10 : decode cX3_air 10 = .ok (.getfield 19, 3) := by decide +kernel
theorem dX3_air_13 : decode cX3_air 13 = .ok (.iload_n 1, 1) := by decide +kernel
theorem dX3_air_14 : decode cX3_air 14 = .ok (.iaload, 1) := by decide +kernel
theorem dX3_air_15 : decode cX3_air 15 = .ok (.invokevirtual 68, 3) := by decide +kernel
theorem dX3_air_18 : decode cX3_air 18 = .ok (.goto 8, 3) := by decide +kernel
theorem dX3_air_21 : decode cX3_air 21 = .ok (.aload_n 0, 1) := by decide +kernel
theorem dX3_air_22 : decode cX3_air 22 = .ok (.iconst 1, 1) := by decide +kernel
theorem dX3_air_23 : decode cX3_air 23 = .ok (.invokevirtual 64, 3) := by decide +kernel
theorem dX3_air_26 : decode cX3_air 26 = .ok (.ireturn, 1) := by decide +kernel
theorem dX3_tellsLong_0 : decode cX3_tellsLong 0 = .ok (.aload_n 0, 1) := by decide +kernel
theorem dX3_tellsLong_1 : decode cX3_tellsLong 1 = .ok (.iconst 0, 1) := by decide +kernel
theorem dX3_tellsLong_2 : decode cX3_tellsLong 2 = .ok (.putfield 50, 3) := by decide +kernel
theorem dX3_tellsLong_5 : decode cX3_tellsLong 5 = .ok (.lload_n 1, 1) := by decide +kernel
theorem dX3_tellsLong_6 : decode cX3_tellsLong 6 = .ok (.lreturn, 1) := by decide +kernel
theorem dX3_energy_0 : decode cX3_energy 0 = .ok (.aload_n 0, 1) := by decide +kernel
theorem dX3_energy_1 : decode cX3_energy 1 = .ok (.aload_n 0, 1) := by decide +kernel
theorem dX3_energy_2 : decode cX3_energy 2 = .ok (.getfield 144, 3) := by decide +kernel
theorem dX3_energy_5 : decode cX3_energy 5 = .ok (.invokevirtual 147, 3) := by decide +kernel
theorem dX3_energy_8 : decode cX3_energy 8 = .ok (.lreturn, 1) := by decide +kernel
theorem dX3_discomfort_0 : decode cX3_discomfort 0 = .ok (.aload_n 0, 1) := by decide +kernel
theorem dX3_discomfort_1 : decode cX3_discomfort 1 = .ok (.aload_n 0, 1) := by decide +kernel
theorem dX3_discomfort_2 : decode cX3_discomfort 2 = .ok (.getfield 138, 3) := by decide +kernel
theorem dX3_discomfort_5 : decode cX3_discomfort 5 = .ok (.invokevirtual 147, 3) := by decide +kernel
theorem dX3_discomfort_8 : decode cX3_discomfort 8 = .ok (.lreturn, 1) := by decide +kernel
theorem dX3_cleaning_0 : decode cX3_cleaning 0 = .ok (.aload_n 0, 1) := by decide +kernel
theorem dX3_cleaning_1 : decode cX3_cleaning 1 = .ok (.aload_n 0, 1) := by decide +kernel
theorem dX3_cleaning_2 : decode cX3_cleaning 2 = .ok (.getfield 101, 3) := by decide +kernel
theorem dX3_cleaning_5 : decode cX3_cleaning 5 = .ok (.invokevirtual 147, 3) := by decide +kernel
theorem dX3_cleaning_8 : decode cX3_cleaning 8 = .ok (.lreturn, 1) := by decide +kernel
theorem dX3_noShows_0 : decode cX3_noShows 0 = .ok (.aload_n 0, 1) := by decide +kernel
theorem dX3_noShows_1 : decode cX3_noShows 1 = .ok (.aload_n 0, 1) := by decide +kernel
theorem dX3_noShows_2 : decode cX3_noShows 2 = .ok (.getfield 121, 3) := by decide +kernel
theorem dX3_noShows_5 : decode cX3_noShows 5 = .ok (.invokevirtual 68, 3) := by decide +kernel
theorem dX3_noShows_8 : decode cX3_noShows 8 = .ok (.ireturn, 1) := by decide +kernel
theorem dX3_meanStanding_0 : decode cX3_meanStanding 0 = .ok (.iconst 0, 1) := by decide +kernel
theorem dX3_meanStanding_1 : decode cX3_meanStanding 1 = .ok (.istore_n 1, 1) := by decide +kernel
theorem dX3_meanStanding_2 : decode cX3_meanStanding 2 = .ok (.iconst 0, 1) := by decide +kernel
theorem dX3_meanStanding_3 : decode cX3_meanStanding 3 = .ok (.istore_n 2, 1) := by decide +kernel
theorem dX3_meanStanding_4 : decode cX3_meanStanding 4 = .ok (.iload_n 2, 1) := by decide +kernel
theorem dX3_meanStanding_5 : decode cX3_meanStanding 5 = .ok (.aload_n 0, 1) := by decide +kernel
theorem dX3_meanStanding_6 : decode cX3_meanStanding 6 = .ok (.getfield 61, 3) := by decide +kernel
theorem dX3_meanStanding_9 : decode cX3_meanStanding 9 = .ok (.if_icmp .ge 18, 3) := by decide +kernel
theorem dX3_meanStanding_12 : decode cX3_meanStanding 12 = .ok (.iload_n 1, 1) := by decide +kernel
theorem dX3_meanStanding_13 : decode cX3_meanStanding 13 = .ok (.aload_n 0, 1) := by decide +kernel
theorem dX3_meanStanding_14 : decode cX3_meanStanding 14 = .ok (.getfield 29, 3) := by decide +kernel
theorem dX3_meanStanding_17 : decode cX3_meanStanding 17 = .ok (.iload_n 2, 1) := by decide +kernel
theorem dX3_meanStanding_18 : decode cX3_meanStanding 18 = .ok (.iaload, 1) := by decide +kernel
theorem dX3_meanStanding_19 : decode cX3_meanStanding 19 = .ok (.iadd, 1) := by decide +kernel
theorem dX3_meanStanding_20 : decode cX3_meanStanding 20 = .ok (.istore_n 1, 1) := by decide +kernel
theorem dX3_meanStanding_21 : decode cX3_meanStanding 21 = .ok (.iinc 2 1, 3) := by decide +kernel
theorem dX3_meanStanding_24 : decode cX3_meanStanding 24 = .ok (.goto (-20), 3) := by decide +kernel
theorem dX3_meanStanding_27 : decode cX3_meanStanding 27 = .ok (.aload_n 0, 1) := by decide +kernel
theorem dX3_meanStanding_28 : decode cX3_meanStanding 28 = .ok (.aload_n 0, 1) := by decide +kernel
theorem dX3_meanStanding_29 : decode cX3_meanStanding 29 = .ok (.getfield 61, 3) := by decide +kernel
theorem dX3_meanStanding_32 : decode cX3_meanStanding 32 = .ok (.ifCond .ne 7, 3) := by decide +kernel
theorem dX3_meanStanding_35 : decode cX3_meanStanding 35 = .ok (.iconst 1, 1) := by decide +kernel
theorem dX3_meanStanding_36 : decode cX3_meanStanding 36 = .ok (.goto 4, 3) := by decide +kernel
theorem dX3_meanStanding_39 : decode cX3_meanStanding 39 = .ok (.iconst 0, 1) := by decide +kernel
theorem dX3_meanStanding_40 : decode cX3_meanStanding 40 = .ok (.putfield 50, 3) := by decide +kernel
theorem dX3_meanStanding_43 : decode cX3_meanStanding 43 = .ok (.aload_n 0, 1) := by decide +kernel
theorem dX3_meanStanding_44 : decode cX3_meanStanding 44 = .ok (.getfield 61, 3) := by decide +kernel
theorem dX3_meanStanding_47 : decode cX3_meanStanding 47 = .ok (.ifCond .ne 7, 3) := by decide +kernel
theorem dX3_meanStanding_50 : decode cX3_meanStanding 50 = .ok (.dconst 0, 1) := by decide +kernel
theorem dX3_meanStanding_51 : decode cX3_meanStanding 51 = .ok (.goto 11, 3) := by decide +kernel
theorem dX3_meanStanding_54 : decode cX3_meanStanding 54 = .ok (.iload_n 1, 1) := by decide +kernel
theorem dX3_meanStanding_55 : decode cX3_meanStanding 55 = .ok (.i2d, 1) := by decide +kernel
theorem dX3_meanStanding_56 : decode cX3_meanStanding 56 = .ok (.aload_n 0, 1) := by decide +kernel
theorem dX3_meanStanding_57 : decode cX3_meanStanding 57 = .ok (.getfield 61, 3) := by decide +kernel
theorem dX3_meanStanding_60 : decode cX3_meanStanding 60 = .ok (.i2d, 1) := by decide +kernel
theorem dX3_meanStanding_61 : decode cX3_meanStanding 61 = .ok (.ddiv, 1) := by decide +kernel
theorem dX3_meanStanding_62 : decode cX3_meanStanding 62 = .ok (.dreturn, 1) := by decide +kernel
theorem dX3_givenShare_0 : decode cX3_givenShare 0 = .ok (.iconst 0, 1) := by decide +kernel
theorem dX3_givenShare_1 : decode cX3_givenShare 1 = .ok (.istore_n 1, 1) := by decide +kernel
theorem dX3_givenShare_2 : decode cX3_givenShare 2 = .ok (.iconst 0, 1) := by decide +kernel
theorem dX3_givenShare_3 : decode cX3_givenShare 3 = .ok (.istore_n 2, 1) := by decide +kernel
theorem dX3_givenShare_4 : decode cX3_givenShare 4 = .ok (.iconst 0, 1) := by decide +kernel
theorem dX3_givenShare_5 : decode cX3_givenShare 5 = .ok (.istore_n 3, 1) := by decide +kernel
theorem dX3_givenShare_6 : decode cX3_givenShare 6 = .ok (.iload_n 3, 1) := by decide +kernel
theorem dX3_givenShare_7 : decode cX3_givenShare 7 = .ok (.aload_n 0, 1) := by decide +kernel
theorem dX3_givenShare_8 : decode cX3_givenShare 8 = .ok (.getfield 54, 3) := by decide +kernel
theorem dX3_givenShare_11 : decode cX3_givenShare 11 = .ok (.if_icmp .ge 40, 3) := by decide +kernel
theorem dX3_givenShare_14 : decode cX3_givenShare 14 = .ok (.iload_n 1, 1) := by decide +kernel
theorem dX3_givenShare_15 : decode cX3_givenShare 15 = .ok (.aload_n 0, 1) := by decide +kernel
theorem dX3_givenShare_16 : decode cX3_givenShare 16 = .ok (.getfield 22, 3) := by decide +kernel
theorem dX3_givenShare_19 : decode cX3_givenShare 19 = .ok (.iload_n 3, 1) := by decide +kernel
theorem dX3_givenShare_20 : decode cX3_givenShare 20 = .ok (.baload, 1) := by decide +kernel
theorem dX3_givenShare_21 : decode cX3_givenShare 21 = .ok (.ifCond .eq 12, 3) := by decide +kernel
theorem dX3_givenShare_24 : decode cX3_givenShare 24 = .ok (.aload_n 0, 1) := by decide +kernel
theorem dX3_givenShare_25 : decode cX3_givenShare 25 = .ok (.getfield 7, 3) := by decide +kernel
theorem dX3_givenShare_28 : decode cX3_givenShare 28 = .ok (.iload_n 3, 1) := by decide +kernel
theorem dX3_givenShare_29 : decode cX3_givenShare 29 = .ok (.iaload, 1) := by decide +kernel
theorem dX3_givenShare_30 : decode cX3_givenShare 30 = .ok (.goto 4, 3) := by decide +kernel
theorem dX3_givenShare_33 : decode cX3_givenShare 33 = .ok (.iconst 0, 1) := by decide +kernel
theorem dX3_givenShare_34 : decode cX3_givenShare 34 = .ok (.iadd, 1) := by decide +kernel
theorem dX3_givenShare_35 : decode cX3_givenShare 35 = .ok (.istore_n 1, 1) := by decide +kernel
theorem dX3_givenShare_36 : decode cX3_givenShare 36 = .ok (.iload_n 2, 1) := by decide +kernel
theorem dX3_givenShare_37 : decode cX3_givenShare 37 = .ok (.aload_n 0, 1) := by decide +kernel
theorem dX3_givenShare_38 : decode cX3_givenShare 38 = .ok (.iload_n 3, 1) := by decide +kernel
theorem dX3_givenShare_39 : decode cX3_givenShare 39 = .ok (.iconst (-1), 1) := by decide +kernel
theorem dX3_givenShare_40 : decode cX3_givenShare 40 = .ok (.invokevirtual 109, 3) := by decide +kernel
theorem dX3_givenShare_43 : decode cX3_givenShare 43 = .ok (.iadd, 1) := by decide +kernel
theorem dX3_givenShare_44 : decode cX3_givenShare 44 = .ok (.istore_n 2, 1) := by decide +kernel
theorem dX3_givenShare_45 : decode cX3_givenShare 45 = .ok (.iinc 3 1, 3) := by decide +kernel
theorem dX3_givenShare_48 : decode cX3_givenShare 48 = .ok (.goto (-42), 3) := by decide +kernel
theorem dX3_givenShare_51 : decode cX3_givenShare 51 = .ok (.aload_n 0, 1) := by decide +kernel
theorem dX3_givenShare_52 : decode cX3_givenShare 52 = .ok (.iload_n 1, 1) := by decide +kernel
theorem dX3_givenShare_53 : decode cX3_givenShare 53 = .ok (.ifCond .ne 7, 3) := by decide +kernel
theorem dX3_givenShare_56 : decode cX3_givenShare 56 = .ok (.iconst 1, 1) := by decide +kernel
theorem dX3_givenShare_57 : decode cX3_givenShare 57 = .ok (.goto 4, 3) := by decide +kernel
theorem dX3_givenShare_60 : decode cX3_givenShare 60 = .ok (.iconst 0, 1) := by decide +kernel
theorem dX3_givenShare_61 : decode cX3_givenShare 61 = .ok (.putfield 50, 3) := by decide +kernel
theorem dX3_givenShare_64 : decode cX3_givenShare 64 = .ok (.iload_n 1, 1) := by decide +kernel
theorem dX3_givenShare_65 : decode cX3_givenShare 65 = .ok (.ifCond .ne 7, 3) := by decide +kernel
theorem dX3_givenShare_68 : decode cX3_givenShare 68 = .ok (.fconst 0, 1) := by decide +kernel
theorem dX3_givenShare_69 : decode cX3_givenShare 69 = .ok (.goto 8, 3) := by decide +kernel
theorem dX3_givenShare_72 : decode cX3_givenShare 72 = .ok (.iload_n 2, 1) := by decide +kernel
theorem dX3_givenShare_73 : decode cX3_givenShare 73 = .ok (.i2f, 1) := by decide +kernel
theorem dX3_givenShare_74 : decode cX3_givenShare 74 = .ok (.iload_n 1, 1) := by decide +kernel
theorem dX3_givenShare_75 : decode cX3_givenShare 75 = .ok (.i2f, 1) := by decide +kernel
theorem dX3_givenShare_76 : decode cX3_givenShare 76 = .ok (.fdiv, 1) := by decide +kernel
theorem dX3_givenShare_77 : decode cX3_givenShare 77 = .ok (.freturn, 1) := by decide +kernel
theorem dX3_isSound_0 : decode cX3_isSound 0 = .ok (.aload_n 0, 1) := by decide +kernel
theorem dX3_isSound_1 : decode cX3_isSound 1 = .ok (.iconst 0, 1) := by decide +kernel
theorem dX3_isSound_2 : decode cX3_isSound 2 = .ok (.iconst 1, 1) := by decide +kernel
theorem dX3_isSound_3 : decode cX3_isSound 3 = .ok (.invokevirtual 131, 3) := by decide +kernel
theorem dX3_isSound_6 : decode cX3_isSound 6 = .ok (.ireturn, 1) := by decide +kernel
theorem dJx00060_init_a7421_0 : decode cJx00060_init_a7421 0 = .ok (.aload_n 0, 1) := by decide +kernel
theorem dJx00060_init_a7421_1 : decode cJx00060_init_a7421 1 = .ok (.aload_n 1, 1) := by decide +kernel
theorem dJx00060_init_a7421_2 : decode cJx00060_init_a7421 2 = .ok (.invokespecial 7, 3) := by decide +kernel
theorem dJx00060_init_a7421_5 : decode cJx00060_init_a7421 5 = .ok (.return_, 1) := by decide +kernel
theorem dJ9_abs_0f7a4_0 : decode cJ9_abs_0f7a4 0 = .ok (.iload_n 0, 1) := by decide +kernel
theorem dJ9_abs_0f7a4_1 : decode cJ9_abs_0f7a4 1 = .ok (.ifCond .ge 8, 3) := by decide +kernel
theorem dJ9_abs_0f7a4_4 : decode cJ9_abs_0f7a4 4 = .ok (.iload_n 0, 1) := by decide +kernel
theorem dJ9_abs_0f7a4_5 : decode cJ9_abs_0f7a4 5 = .ok (.ineg, 1) := by decide +kernel
theorem dJ9_abs_0f7a4_6 : decode cJ9_abs_0f7a4 6 = .ok (.goto 4, 3) := by decide +kernel
theorem dJ9_abs_0f7a4_9 : decode cJ9_abs_0f7a4 9 = .ok (.iload_n 0, 1) := by decide +kernel
theorem dJ9_abs_0f7a4_10 : decode cJ9_abs_0f7a4 10 = .ok (.ireturn, 1) := by decide +kernel
theorem dJ9_max_7cf53_0 : decode cJ9_max_7cf53 0 = .ok (.iload_n 0, 1) := by decide +kernel
theorem dJ9_max_7cf53_1 : decode cJ9_max_7cf53 1 = .ok (.iload_n 1, 1) := by decide +kernel
theorem dJ9_max_7cf53_2 : decode cJ9_max_7cf53 2 = .ok (.if_icmp .lt 7, 3) := by decide +kernel
theorem dJ9_max_7cf53_5 : decode cJ9_max_7cf53 5 = .ok (.iload_n 0, 1) := by decide +kernel
theorem dJ9_max_7cf53_6 : decode cJ9_max_7cf53 6 = .ok (.goto 4, 3) := by decide +kernel
theorem dJ9_max_7cf53_9 : decode cJ9_max_7cf53 9 = .ok (.iload_n 1, 1) := by decide +kernel
theorem dJ9_max_7cf53_10 : decode cJ9_max_7cf53 10 = .ok (.ireturn, 1) := by decide +kernel
theorem dJ9_min_7cf53_0 : decode cJ9_min_7cf53 0 = .ok (.iload_n 0, 1) := by decide +kernel
theorem dJ9_min_7cf53_1 : decode cJ9_min_7cf53 1 = .ok (.iload_n 1, 1) := by decide +kernel
theorem dJ9_min_7cf53_2 : decode cJ9_min_7cf53 2 = .ok (.if_icmp .gt 7, 3) := by decide +kernel
theorem dJ9_min_7cf53_5 : decode cJ9_min_7cf53 5 = .ok (.iload_n 0, 1) := by decide +kernel
theorem dJ9_min_7cf53_6 : decode cJ9_min_7cf53 6 = .ok (.goto 4, 3) := by decide +kernel
theorem dJ9_min_7cf53_9 : decode cJ9_min_7cf53 9 = .ok (.iload_n 1, 1) := by decide +kernel
theorem dJ9_min_7cf53_10 : decode cJ9_min_7cf53 10 = .ok (.ireturn, 1) := by decide +kernel
theorem dJxa1e45_init_da8c8_0 : decode cJxa1e45_init_da8c8 0 = .ok (.aload_n 0, 1) := by decide +kernel
theorem dJxa1e45_init_da8c8_1 : decode cJxa1e45_init_da8c8 1 = .ok (.invokespecial 1, 3) := by decide +kernel
theorem dJxa1e45_init_da8c8_4 : decode cJxa1e45_init_da8c8 4 = .ok (.return_, 1) := by decide +kernel
theorem dJxc12de_init_da8c8_0 : decode cJxc12de_init_da8c8 0 = .ok (.aload_n 0, 1) := by decide +kernel
theorem dJxc12de_init_da8c8_1 : decode cJxc12de_init_da8c8 1 = .ok (.invokespecial 1, 3) := by decide +kernel
theorem dJxc12de_init_da8c8_4 : decode cJxc12de_init_da8c8 4 = .ok (.aload_n 0, 1) := by decide +kernel
theorem dJxc12de_init_da8c8_5 : decode cJxc12de_init_da8c8 5 = .ok (.iconst 0, 1) := by decide +kernel
theorem dJxc12de_init_da8c8_6 : decode cJxc12de_init_da8c8 6 = .ok (.putfield 7, 3) := by decide +kernel
theorem dJxc12de_init_da8c8_9 : decode cJxc12de_init_da8c8 9 = .ok (.return_, 1) := by decide +kernel
theorem dJx4a65c_init_da8c8_0 : decode cJx4a65c_init_da8c8 0 = .ok (.aload_n 0, 1) := by decide +kernel
theorem dJx4a65c_init_da8c8_1 : decode cJx4a65c_init_da8c8 1 = .ok (.invokespecial 1, 3) := by decide +kernel
theorem dJx4a65c_init_da8c8_4 : decode cJx4a65c_init_da8c8 4 = .ok (.aload_n 0, 1) := by decide +kernel
theorem dJx4a65c_init_da8c8_5 : decode cJx4a65c_init_da8c8 5 = .ok (.getstatic 39, 3) := by decide +kernel
theorem dJx4a65c_init_da8c8_8 : decode cJx4a65c_init_da8c8 8 = .ok (.putfield 9, 3) := by decide +kernel
theorem dJx4a65c_init_da8c8_11 : decode cJx4a65c_init_da8c8 11 = .ok (.return_, 1) := by decide +kernel
theorem dJx4a65c_grow_92f84_0 : decode cJx4a65c_grow_92f84 0 = .ok (.aload_n 0, 1) := by decide +kernel
theorem dJx4a65c_grow_92f84_1 : decode cJx4a65c_grow_92f84 1 = .ok (.getfield 9, 3) := by decide +kernel
theorem dJx4a65c_grow_92f84_4 : decode cJx4a65c_grow_92f84 4 = .ok (.arraylength, 1) := by decide +kernel
theorem dJx4a65c_grow_92f84_5 : decode cJx4a65c_grow_92f84 5 = .ok (.istore_n 2, 1) := by decide +kernel
theorem dJx4a65c_grow_92f84_6 : decode cJx4a65c_grow_92f84 6 = .ok (.iload_n 2, 1) := by decide +kernel
theorem dJx4a65c_grow_92f84_7 : decode cJx4a65c_grow_92f84 7 = .ok (.ifCond .gt 13, 3) := by decide +kernel
theorem dJx4a65c_grow_92f84_10 : decode cJx4a65c_grow_92f84 10 = .ok (.aload_n 0, 1) := by decide +kernel
theorem dJx4a65c_grow_92f84_11 : decode cJx4a65c_grow_92f84 11 = .ok (.getfield 9, 3) := by decide +kernel
theorem dJx4a65c_grow_92f84_14 : decode cJx4a65c_grow_92f84 14 = .ok (.getstatic 39, 3) := by decide +kernel
theorem dJx4a65c_grow_92f84_17 : decode cJx4a65c_grow_92f84 17 = .ok (.if_acmp .eq 28, 3) := by decide +kernel
theorem dJx4a65c_grow_92f84_20 : decode cJx4a65c_grow_92f84 20 = .ok (.iload_n 2, 1) := by decide +kernel
theorem dJx4a65c_grow_92f84_21 : decode cJx4a65c_grow_92f84 21 = .ok (.iload_n 1, 1) := by decide +kernel
theorem dJx4a65c_grow_92f84_22 : decode cJx4a65c_grow_92f84 22 = .ok (.iload_n 2, 1) := by decide +kernel
theorem dJx4a65c_grow_92f84_23 : decode cJx4a65c_grow_92f84 23 = .ok (.isub, 1) := by decide +kernel
theorem dJx4a65c_grow_92f84_24 : decode cJx4a65c_grow_92f84 24 = .ok (.iload_n 2, 1) := by decide +kernel
theorem dJx4a65c_grow_92f84_25 : decode cJx4a65c_grow_92f84 25 = .ok (.iconst 1, 1) := by decide +kernel
theorem dJx4a65c_grow_92f84_26 : decode cJx4a65c_grow_92f84 26 = .ok (.ishr, 1) := by decide +kernel
theorem dJx4a65c_grow_92f84_27 : decode cJx4a65c_grow_92f84 27 = .ok (.invokestatic 73, 3) := by decide +kernel
theorem dJx4a65c_grow_92f84_30 : decode cJx4a65c_grow_92f84 30 = .ok (.istore_n 3, 1) := by decide +kernel
theorem dJx4a65c_grow_92f84_31 : decode cJx4a65c_grow_92f84 31 = .ok (.aload_n 0, 1) := by decide +kernel
theorem dJx4a65c_grow_92f84_32 : decode cJx4a65c_grow_92f84 32 = .ok (.aload_n 0, 1) := by decide +kernel
theorem dJx4a65c_grow_92f84_33 : decode cJx4a65c_grow_92f84 33 = .ok (.getfield 9, 3) := by decide +kernel
theorem dJx4a65c_grow_92f84_36 : decode cJx4a65c_grow_92f84 36 = .ok (.iload_n 3, 1) := by decide +kernel
theorem dJx4a65c_grow_92f84_37 : decode cJx4a65c_grow_92f84 37 = .ok (.invokestatic 66, 3) := by decide +kernel
theorem dJx4a65c_grow_92f84_40 : decode cJx4a65c_grow_92f84 40 = .ok (.dup_x1, 1) := by decide +kernel
theorem dJx4a65c_grow_92f84_41 : decode cJx4a65c_grow_92f84 41 = .ok (.putfield 9, 3) := by decide +kernel
theorem dJx4a65c_grow_92f84_44 : decode cJx4a65c_grow_92f84 44 = .ok (.areturn, 1) := by decide +kernel
theorem dJx4a65c_grow_92f84_45 : decode cJx4a65c_grow_92f84 45 = .ok (.aload_n 0, 1) := by decide +kernel
theorem dJx4a65c_grow_92f84_46 : decode cJx4a65c_grow_92f84 46 = .ok (.bipush 10, 2) := by decide +kernel
theorem dJx4a65c_grow_92f84_48 : decode cJx4a65c_grow_92f84 48 = .ok (.iload_n 1, 1) := by decide +kernel
theorem dJx4a65c_grow_92f84_49 : decode cJx4a65c_grow_92f84 49 = .ok (.invokestatic 79, 3) := by decide +kernel
theorem dJx4a65c_grow_92f84_52 : decode cJx4a65c_grow_92f84 52 = .ok (.anewarray 7, 3) := by decide +kernel
theorem dJx4a65c_grow_92f84_55 : decode cJx4a65c_grow_92f84 55 = .ok (.dup_x1, 1) := by decide +kernel
theorem dJx4a65c_grow_92f84_56 : decode cJx4a65c_grow_92f84 56 = .ok (.putfield 9, 3) := by decide +kernel
theorem dJx4a65c_grow_92f84_59 : decode cJx4a65c_grow_92f84 59 = .ok (.areturn, 1) := by decide +kernel
theorem dJx4a65c_grow_d5877_0 : decode cJx4a65c_grow_d5877 0 = .ok (.aload_n 0, 1) := by decide +kernel
theorem dJx4a65c_grow_d5877_1 : decode cJx4a65c_grow_d5877 1 = .ok (.aload_n 0, 1) := by decide +kernel
theorem dJx4a65c_grow_d5877_2 : decode cJx4a65c_grow_d5877 2 = .ok (.getfield 48, 3) := by decide +kernel
theorem dJx4a65c_grow_d5877_5 : decode cJx4a65c_grow_d5877 5 = .ok (.iconst 1, 1) := by decide +kernel
theorem dJx4a65c_grow_d5877_6 : decode cJx4a65c_grow_d5877 6 = .ok (.iadd, 1) := by decide +kernel
theorem dJx4a65c_grow_d5877_7 : decode cJx4a65c_grow_d5877 7 = .ok (.invokevirtual 69, 3) := by decide +kernel
theorem dJx4a65c_grow_d5877_10 : decode cJx4a65c_grow_d5877 10 = .ok (.areturn, 1) := by decide +kernel
theorem dJx4a65c_size_8abf5_0 : decode cJx4a65c_size_8abf5 0 = .ok (.aload_n 0, 1) := by decide +kernel
theorem dJx4a65c_size_8abf5_1 : decode cJx4a65c_size_8abf5 1 = .ok (.getfield 48, 3) := by decide +kernel
theorem dJx4a65c_size_8abf5_4 : decode cJx4a65c_size_8abf5 4 = .ok (.ireturn, 1) := by decide +kernel
theorem dJx4a65c_isEmpty_aae02_0 : decode cJx4a65c_isEmpty_aae02 0 = .ok (.aload_n 0, 1) := by decide +kernel
theorem dJx4a65c_isEmpty_aae02_1 : decode cJx4a65c_isEmpty_aae02 1 = .ok (.getfield 48, 3) := by decide +kernel
theorem dJx4a65c_isEmpty_aae02_4 : decode cJx4a65c_isEmpty_aae02 4 = .ok (.ifCond .ne 7, 3) := by decide +kernel
theorem dJx4a65c_isEmpty_aae02_7 : decode cJx4a65c_isEmpty_aae02 7 = .ok (.iconst 1, 1) := by decide +kernel
theorem dJx4a65c_isEmpty_aae02_8 : decode cJx4a65c_isEmpty_aae02 8 = .ok (.goto 4, 3) := by decide +kernel
theorem dJx4a65c_isEmpty_aae02_11 : decode cJx4a65c_isEmpty_aae02 11 = .ok (.iconst 0, 1) := by decide +kernel
theorem dJx4a65c_isEmpty_aae02_12 : decode cJx4a65c_isEmpty_aae02 12 = .ok (.ireturn, 1) := by decide +kernel
theorem dJx4a65c_elementData_915e3_0 : decode cJx4a65c_elementData_915e3 0 = .ok (.aload_n 0, 1) := by decide +kernel
theorem dJx4a65c_elementData_915e3_1 : decode cJx4a65c_elementData_915e3 1 = .ok (.getfield 9, 3) := by decide +kernel
theorem dJx4a65c_elementData_915e3_4 : decode cJx4a65c_elementData_915e3 4 = .ok (.iload_n 1, 1) := by decide +kernel
theorem dJx4a65c_elementData_915e3_5 : decode cJx4a65c_elementData_915e3 5 = .ok (.aaload, 1) := by decide +kernel
theorem dJx4a65c_elementData_915e3_6 : decode cJx4a65c_elementData_915e3 6 = .ok (.areturn, 1) := by decide +kernel
theorem dJx4a65c_get_915e3_0 : decode cJx4a65c_get_915e3 0 = .ok (.iload_n 1, 1) := by decide +kernel
theorem dJx4a65c_get_915e3_1 : decode cJx4a65c_get_915e3 1 = .ok (.aload_n 0, 1) := by decide +kernel
theorem dJx4a65c_get_915e3_2 : decode cJx4a65c_get_915e3 2 = .ok (.getfield 48, 3) := by decide +kernel
theorem dJx4a65c_get_915e3_5 : decode cJx4a65c_get_915e3 5 = .ok (.invokestatic 118, 3) := by decide +kernel
theorem dJx4a65c_get_915e3_8 : decode cJx4a65c_get_915e3 8 = .ok (.pop, 1) := by decide +kernel
theorem dJx4a65c_get_915e3_9 : decode cJx4a65c_get_915e3 9 = .ok (.aload_n 0, 1) := by decide +kernel
theorem dJx4a65c_get_915e3_10 : decode cJx4a65c_get_915e3 10 = .ok (.iload_n 1, 1) := by decide +kernel
theorem dJx4a65c_get_915e3_11 : decode cJx4a65c_get_915e3 11 = .ok (.invokevirtual 123, 3) := by decide +kernel
theorem dJx4a65c_get_915e3_14 : decode cJx4a65c_get_915e3 14 = .ok (.areturn, 1) := by decide +kernel
theorem dJx4a65c_add_72be8_0 : decode cJx4a65c_add_72be8 0 = .ok (.iload_n 3, 1) := by decide +kernel
theorem dJx4a65c_add_72be8_1 : decode cJx4a65c_add_72be8 1 = .ok (.aload_n 2, 1) := by decide +kernel
theorem dJx4a65c_add_72be8_2 : decode cJx4a65c_add_72be8 2 = .ok (.arraylength, 1) := by decide +kernel
theorem dJx4a65c_add_72be8_3 : decode cJx4a65c_add_72be8 3 = .ok (.if_icmp .ne 8, 3) := by decide +kernel
theorem dJx4a65c_add_72be8_6 : decode cJx4a65c_add_72be8 6 = .ok (.aload_n 0, 1) := by decide +kernel
theorem dJx4a65c_add_72be8_7 : decode cJx4a65c_add_72be8 7 = .ok (.invokevirtual 129, 3) := by decide +kernel
theorem dJx4a65c_add_72be8_10 : decode cJx4a65c_add_72be8 10 = .ok (.astore_n 2, 1) := by decide +kernel
theorem dJx4a65c_add_72be8_11 : decode cJx4a65c_add_72be8 11 = .ok (.aload_n 2, 1) := by decide +kernel
theorem dJx4a65c_add_72be8_12 : decode cJx4a65c_add_72be8 12 = .ok (.iload_n 3, 1) := by decide +kernel
theorem dJx4a65c_add_72be8_13 : decode cJx4a65c_add_72be8 13 = .ok (.aload_n 1, 1) := by decide +kernel
theorem dJx4a65c_add_72be8_14 : decode cJx4a65c_add_72be8 14 = .ok (.aastore, 1) := by decide +kernel
theorem dJx4a65c_add_72be8_15 : decode cJx4a65c_add_72be8 15 = .ok (.aload_n 0, 1) := by decide +kernel
theorem dJx4a65c_add_72be8_16 : decode cJx4a65c_add_72be8 16 = .ok (.iload_n 3, 1) := by decide +kernel
theorem dJx4a65c_add_72be8_17 : decode cJx4a65c_add_72be8 17 = .ok (.iconst 1, 1) := by decide +kernel
theorem dJx4a65c_add_72be8_18 : decode cJx4a65c_add_72be8 18 = .ok (.iadd, 1) := by decide +kernel
theorem dJx4a65c_add_72be8_19 : decode cJx4a65c_add_72be8 19 = .ok (.putfield 48, 3) := by decide +kernel
theorem dJx4a65c_add_72be8_22 : decode cJx4a65c_add_72be8 22 = .ok (.return_, 1) := by decide +kernel
theorem dJx4a65c_add_9ea2d_0 : decode cJx4a65c_add_9ea2d 0 = .ok (.aload_n 0, 1) := by decide +kernel
theorem dJx4a65c_add_9ea2d_1 : decode cJx4a65c_add_9ea2d 1 = .ok (.dup, 1) := by decide +kernel
theorem dJx4a65c_add_9ea2d_2 : decode cJx4a65c_add_9ea2d 2 = .ok (.getfield 63, 3) := by decide +kernel
theorem dJx4a65c_add_9ea2d_5 : decode cJx4a65c_add_9ea2d 5 = .ok (.iconst 1, 1) := by decide +kernel
theorem dJx4a65c_add_9ea2d_6 : decode cJx4a65c_add_9ea2d 6 = .ok (.iadd, 1) := by decide +kernel
theorem dJx4a65c_add_9ea2d_7 : decode cJx4a65c_add_9ea2d 7 = .ok (.putfield 63, 3) := by decide +kernel
theorem dJx4a65c_add_9ea2d_10 : decode cJx4a65c_add_9ea2d 10 = .ok (.aload_n 0, 1) := by decide +kernel
theorem dJx4a65c_add_9ea2d_11 : decode cJx4a65c_add_9ea2d 11 = .ok (.aload_n 1, 1) := by decide +kernel
theorem dJx4a65c_add_9ea2d_12 : decode cJx4a65c_add_9ea2d 12 = .ok (.aload_n 0, 1) := by decide +kernel
theorem dJx4a65c_add_9ea2d_13 : decode cJx4a65c_add_9ea2d 13 = .ok (.getfield 9, 3) := by decide +kernel
theorem dJx4a65c_add_9ea2d_16 : decode cJx4a65c_add_9ea2d 16 = .ok (.aload_n 0, 1) := by decide +kernel
theorem dJx4a65c_add_9ea2d_17 : decode cJx4a65c_add_9ea2d 17 = .ok (.getfield 48, 3) := by decide +kernel
theorem dJx4a65c_add_9ea2d_20 : decode cJx4a65c_add_9ea2d 20 = .ok (.invokevirtual 131, 3) := by decide +kernel
theorem dJx4a65c_add_9ea2d_23 : decode cJx4a65c_add_9ea2d 23 = .ok (.iconst 1, 1) := by decide +kernel
theorem dJx4a65c_add_9ea2d_24 : decode cJx4a65c_add_9ea2d 24 = .ok (.ireturn, 1) := by decide +kernel
theorem dJx4a65c_remove_915e3_0 : decode cJx4a65c_remove_915e3 0 = .ok (.iload_n 1, 1) := by decide +kernel
theorem dJx4a65c_remove_915e3_1 : decode cJx4a65c_remove_915e3 1 = .ok (.aload_n 0, 1) := by decide +kernel
theorem dJx4a65c_remove_915e3_2 : decode cJx4a65c_remove_915e3 2 = .ok (.getfield 48, 3) := by decide +kernel
theorem dJx4a65c_remove_915e3_5 : decode cJx4a65c_remove_915e3 5 = .ok (.invokestatic 118, 3) := by decide +kernel
theorem dJx4a65c_remove_915e3_8 : decode cJx4a65c_remove_915e3 8 = .ok (.pop, 1) := by decide +kernel
theorem dJx4a65c_remove_915e3_9 : decode cJx4a65c_remove_915e3 9 = .ok (.aload_n 0, 1) := by decide +kernel
theorem dJx4a65c_remove_915e3_10 : decode cJx4a65c_remove_915e3 10 = .ok (.getfield 9, 3) := by decide +kernel
theorem dJx4a65c_remove_915e3_13 : decode cJx4a65c_remove_915e3 13 = .ok (.astore_n 2, 1) := by decide +kernel
theorem dJx4a65c_remove_915e3_14 : decode cJx4a65c_remove_915e3 14 = .ok (.aload_n 2, 1) := by decide +kernel
theorem dJx4a65c_remove_915e3_15 : decode cJx4a65c_remove_915e3 15 = .ok (.iload_n 1, 1) := by decide +kernel
theorem dJx4a65c_remove_915e3_16 : decode cJx4a65c_remove_915e3 16 = .ok (.aaload, 1) := by decide +kernel
theorem dJx4a65c_remove_915e3_17 : decode cJx4a65c_remove_915e3 17 = .ok (.astore_n 3, 1) := by decide +kernel
theorem dJx4a65c_remove_915e3_18 : decode cJx4a65c_remove_915e3 18 = .ok (.aload_n 0, 1) := by decide +kernel
theorem dJx4a65c_remove_915e3_19 : decode cJx4a65c_remove_915e3 19 = .ok (.aload_n 2, 1) := by decide +kernel
theorem dJx4a65c_remove_915e3_20 : decode cJx4a65c_remove_915e3 20 = .ok (.iload_n 1, 1) := by decide +kernel
theorem dJx4a65c_remove_915e3_21 : decode cJx4a65c_remove_915e3 21 = .ok (.invokevirtual 144, 3) := by decide +kernel
theorem dJx4a65c_remove_915e3_24 : decode cJx4a65c_remove_915e3 24 = .ok (.aload_n 3, 1) := by decide +kernel
theorem dJx4a65c_remove_915e3_25 : decode cJx4a65c_remove_915e3 25 = .ok (.areturn, 1) := by decide +kernel
theorem dJx4a65c_fastRemove_b59b0_0 : decode cJx4a65c_fastRemove_b59b0 0 = .ok (.aload_n 0, 1) := by decide +kernel
theorem dJx4a65c_fastRemove_b59b0_1 : decode cJx4a65c_fastRemove_b59b0 1 = .ok (.dup, 1) := by decide +kernel
theorem dJx4a65c_fastRemove_b59b0_2 : decode cJx4a65c_fastRemove_b59b0 2 = .ok (.getfield 63, 3) := by decide +kernel
theorem dJx4a65c_fastRemove_b59b0_5 : decode cJx4a65c_fastRemove_b59b0 5 = .ok (.iconst 1, 1) := by decide +kernel
theorem dJx4a65c_fastRemove_b59b0_6 : decode cJx4a65c_fastRemove_b59b0 6 = .ok (.iadd, 1) := by decide +kernel
theorem dJx4a65c_fastRemove_b59b0_7 : decode cJx4a65c_fastRemove_b59b0 7 = .ok (.putfield 63, 3) := by decide +kernel
theorem dJx4a65c_fastRemove_b59b0_10 : decode cJx4a65c_fastRemove_b59b0 10 = .ok (.aload_n 0, 1) := by decide +kernel
theorem dJx4a65c_fastRemove_b59b0_11 : decode cJx4a65c_fastRemove_b59b0 11 = .ok (.getfield 48, 3) := by decide +kernel
theorem dJx4a65c_fastRemove_b59b0_14 : decode cJx4a65c_fastRemove_b59b0 14 = .ok (.iconst 1, 1) := by decide +kernel
theorem dJx4a65c_fastRemove_b59b0_15 : decode cJx4a65c_fastRemove_b59b0 15 = .ok (.isub, 1) := by decide +kernel
theorem dJx4a65c_fastRemove_b59b0_16 : decode cJx4a65c_fastRemove_b59b0 16 = .ok (.dup, 1) := by decide +kernel
theorem dJx4a65c_fastRemove_b59b0_17 : decode cJx4a65c_fastRemove_b59b0 17 = .ok (.istore_n 3, 1) := by decide +kernel
theorem dJx4a65c_fastRemove_b59b0_18 : decode cJx4a65c_fastRemove_b59b0 18 = .ok (.iload_n 2, 1) := by decide +kernel
theorem dJx4a65c_fastRemove_b59b0_19 : decode cJx4a65c_fastRemove_b59b0 19 = .ok (.if_icmp .le 15, 3) := by decide +kernel
theorem dJx4a65c_fastRemove_b59b0_22 : decode cJx4a65c_fastRemove_b59b0 22 = .ok (.aload_n 1, 1) := by decide +kernel
theorem dJx4a65c_fastRemove_b59b0_23 : decode cJx4a65c_fastRemove_b59b0 23 = .ok (.iload_n 2, 1) := by decide +kernel
theorem dJx4a65c_fastRemove_b59b0_24 : decode cJx4a65c_fastRemove_b59b0 24 = .ok (.iconst 1, 1) := by decide +kernel
theorem dJx4a65c_fastRemove_b59b0_25 : decode cJx4a65c_fastRemove_b59b0 25 = .ok (.iadd, 1) := by decide +kernel
theorem dJx4a65c_fastRemove_b59b0_26 : decode cJx4a65c_fastRemove_b59b0 26 = .ok (.aload_n 1, 1) := by decide +kernel
theorem dJx4a65c_fastRemove_b59b0_27 : decode cJx4a65c_fastRemove_b59b0 27 = .ok (.iload_n 2, 1) := by decide +kernel
theorem dJx4a65c_fastRemove_b59b0_28 : decode cJx4a65c_fastRemove_b59b0 28 = .ok (.iload_n 3, 1) := by decide +kernel
theorem dJx4a65c_fastRemove_b59b0_29 : decode cJx4a65c_fastRemove_b59b0 29 = .ok (.iload_n 2, 1) := by decide +kernel
theorem dJx4a65c_fastRemove_b59b0_30 : decode cJx4a65c_fastRemove_b59b0 30 = .ok (.isub, 1) := by decide +kernel
theorem dJx4a65c_fastRemove_b59b0_31 : decode cJx4a65c_fastRemove_b59b0 31 = .ok (.invokestatic 112, 3) := by decide +kernel
theorem dJx4a65c_fastRemove_b59b0_34 : decode cJx4a65c_fastRemove_b59b0 34 = .ok (.aload_n 1, 1) := by decide +kernel
theorem dJx4a65c_fastRemove_b59b0_35 : decode cJx4a65c_fastRemove_b59b0 35 = .ok (.aload_n 0, 1) := by decide +kernel
theorem dJx4a65c_fastRemove_b59b0_36 : decode cJx4a65c_fastRemove_b59b0 36 = .ok (.iload_n 3, 1) := by decide +kernel
theorem dJx4a65c_fastRemove_b59b0_37 : decode cJx4a65c_fastRemove_b59b0 37 = .ok (.dup_x1, 1) := by decide +kernel
theorem dJx4a65c_fastRemove_b59b0_38 : decode cJx4a65c_fastRemove_b59b0 38 = .ok (.putfield 48, 3) := by decide +kernel
theorem dJx4a65c_fastRemove_b59b0_41 : decode cJx4a65c_fastRemove_b59b0 41 = .ok (.aconst_null, 1) := by decide +kernel
theorem dJx4a65c_fastRemove_b59b0_42 : decode cJx4a65c_fastRemove_b59b0 42 = .ok (.aastore, 1) := by decide +kernel
theorem dJx4a65c_fastRemove_b59b0_43 : decode cJx4a65c_fastRemove_b59b0 43 = .ok (.return_, 1) := by decide +kernel
theorem dJx4a65c_clear_da8c8_0 : decode cJx4a65c_clear_da8c8 0 = .ok (.aload_n 0, 1) := by decide +kernel
theorem dJx4a65c_clear_da8c8_1 : decode cJx4a65c_clear_da8c8 1 = .ok (.dup, 1) := by decide +kernel
theorem dJx4a65c_clear_da8c8_2 : decode cJx4a65c_clear_da8c8 2 = .ok (.getfield 63, 3) := by decide +kernel
theorem dJx4a65c_clear_da8c8_5 : decode cJx4a65c_clear_da8c8 5 = .ok (.iconst 1, 1) := by decide +kernel
theorem dJx4a65c_clear_da8c8_6 : decode cJx4a65c_clear_da8c8 6 = .ok (.iadd, 1) := by decide +kernel
theorem dJx4a65c_clear_da8c8_7 : decode cJx4a65c_clear_da8c8 7 = .ok (.putfield 63, 3) := by decide +kernel
theorem dJx4a65c_clear_da8c8_10 : decode cJx4a65c_clear_da8c8 10 = .ok (.aload_n 0, 1) := by decide +kernel
theorem dJx4a65c_clear_da8c8_11 : decode cJx4a65c_clear_da8c8 11 = .ok (.getfield 9, 3) := by decide +kernel
theorem dJx4a65c_clear_da8c8_14 : decode cJx4a65c_clear_da8c8 14 = .ok (.astore_n 1, 1) := by decide +kernel
theorem dJx4a65c_clear_da8c8_15 : decode cJx4a65c_clear_da8c8 15 = .ok (.aload_n 0, 1) := by decide +kernel
theorem dJx4a65c_clear_da8c8_16 : decode cJx4a65c_clear_da8c8 16 = .ok (.getfield 48, 3) := by decide +kernel
theorem dJx4a65c_clear_da8c8_19 : decode cJx4a65c_clear_da8c8 19 = .ok (.istore_n 2, 1) := by decide +kernel
theorem dJx4a65c_clear_da8c8_20 : decode cJx4a65c_clear_da8c8 20 = .ok (.aload_n 0, 1) := by decide +kernel
theorem dJx4a65c_clear_da8c8_21 : decode cJx4a65c_clear_da8c8 21 = .ok (.iconst 0, 1) := by decide +kernel
theorem dJx4a65c_clear_da8c8_22 : decode cJx4a65c_clear_da8c8 22 = .ok (.dup_x1, 1) := by decide +kernel
theorem dJx4a65c_clear_da8c8_23 : decode cJx4a65c_clear_da8c8 23 = .ok (.putfield 48, 3) := by decide +kernel
theorem dJx4a65c_clear_da8c8_26 : decode cJx4a65c_clear_da8c8 26 = .ok (.istore_n 3, 1) := by decide +kernel
theorem dJx4a65c_clear_da8c8_27 : decode cJx4a65c_clear_da8c8 27 = .ok (.iload_n 3, 1) := by decide +kernel
theorem dJx4a65c_clear_da8c8_28 : decode cJx4a65c_clear_da8c8 28 = .ok (.iload_n 2, 1) := by decide +kernel
theorem dJx4a65c_clear_da8c8_29 : decode cJx4a65c_clear_da8c8 29 = .ok (.if_icmp .ge 13, 3) := by decide +kernel
theorem dJx4a65c_clear_da8c8_32 : decode cJx4a65c_clear_da8c8 32 = .ok (.aload_n 1, 1) := by decide +kernel
theorem dJx4a65c_clear_da8c8_33 : decode cJx4a65c_clear_da8c8 33 = .ok (.iload_n 3, 1) := by decide +kernel
theorem dJx4a65c_clear_da8c8_34 : decode cJx4a65c_clear_da8c8 34 = .ok (.aconst_null, 1) := by decide +kernel
theorem dJx4a65c_clear_da8c8_35 : decode cJx4a65c_clear_da8c8 35 = .ok (.aastore, 1) := by decide +kernel
theorem dJx4a65c_clear_da8c8_36 : decode cJx4a65c_clear_da8c8 36 = .ok (.iinc 3 1, 3) := by decide +kernel
theorem dJx4a65c_clear_da8c8_39 : decode cJx4a65c_clear_da8c8 39 = .ok (.goto (-12), 3) := by decide +kernel
theorem dJx4a65c_clear_da8c8_42 : decode cJx4a65c_clear_da8c8 42 = .ok (.return_, 1) := by decide +kernel
theorem dJ7_copyOf_1904c_0 : decode cJ7_copyOf_1904c 0 = .ok (.aload_n 0, 1) := by decide +kernel
theorem dJ7_copyOf_1904c_1 : decode cJ7_copyOf_1904c 1 = .ok (.iload_n 1, 1) := by decide +kernel
theorem dJ7_copyOf_1904c_2 : decode cJ7_copyOf_1904c 2 = .ok (.aload_n 0, 1) := by decide +kernel
theorem dJ7_copyOf_1904c_3 : decode cJ7_copyOf_1904c 3 = .ok (.invokevirtual 86, 3) := by decide +kernel
theorem dJ7_copyOf_1904c_6 : decode cJ7_copyOf_1904c 6 = .ok (.invokestatic 300, 3) := by decide +kernel
theorem dJ7_copyOf_1904c_9 : decode cJ7_copyOf_1904c 9 = .ok (.areturn, 1) := by decide +kernel
theorem dJ7_copyOf_6403c_0 : decode cJ7_copyOf_6403c 0 = .ok (.aload_n 2, 1) := by decide +kernel
theorem dJ7_copyOf_6403c_1 : decode cJ7_copyOf_6403c 1 = .ok (.ldc 110, 2) := by decide +kernel
theorem dJ7_copyOf_6403c_3 : decode cJ7_copyOf_6403c 3 = .ok (.if_acmp .ne 10, 3) := by decide +kernel
theorem dJ7_copyOf_6403c_6 : decode cJ7_copyOf_6403c 6 = .ok (.iload_n 1, 1) := by decide +kernel
theorem dJ7_copyOf_6403c_7 : decode cJ7_copyOf_6403c 7 = .ok (.anewarray 2, 3) := by decide +kernel
theorem dJ7_copyOf_6403c_10 : decode cJ7_copyOf_6403c 10 = .ok (.goto 14, 3) := by decide +kernel
theorem dJ7_copyOf_6403c_13 : decode cJ7_copyOf_6403c 13 = .ok (.aload_n 2, 1) := by decide +kernel
theorem dJ7_copyOf_6403c_14 : decode cJ7_copyOf_6403c 14 = .ok (.invokevirtual 90, 3) := by decide +kernel
theorem dJ7_copyOf_6403c_17 : decode cJ7_copyOf_6403c 17 = .ok (.iload_n 1, 1) := by decide +kernel
theorem dJ7_copyOf_6403c_18 : decode cJ7_copyOf_6403c 18 = .ok (.invokestatic 95, 3) := by decide +kernel
theorem dJ7_copyOf_6403c_21 : decode cJ7_copyOf_6403c 21 = .ok (.checkcast 110, 3) := by decide +kernel
theorem dJ7_copyOf_6403c_24 : decode cJ7_copyOf_6403c 24 = .ok (.astore_n 3, 1) := by decide +kernel
theorem dJ7_copyOf_6403c_25 : decode cJ7_copyOf_6403c 25 = .ok (.aload_n 0, 1) := by decide +kernel
theorem dJ7_copyOf_6403c_26 : decode cJ7_copyOf_6403c 26 = .ok (.iconst 0, 1) := by decide +kernel
theorem dJ7_copyOf_6403c_27 : decode cJ7_copyOf_6403c 27 = .ok (.aload_n 3, 1) := by decide +kernel
theorem dJ7_copyOf_6403c_28 : decode cJ7_copyOf_6403c 28 = .ok (.iconst 0, 1) := by decide +kernel
theorem dJ7_copyOf_6403c_29 : decode cJ7_copyOf_6403c 29 = .ok (.aload_n 0, 1) := by decide +kernel
theorem dJ7_copyOf_6403c_30 : decode cJ7_copyOf_6403c 30 = .ok (.arraylength, 1) := by decide +kernel
theorem dJ7_copyOf_6403c_31 : decode cJ7_copyOf_6403c 31 = .ok (.iload_n 1, 1) := by decide +kernel
theorem dJ7_copyOf_6403c_32 : decode cJ7_copyOf_6403c 32 = .ok (.invokestatic 304, 3) := by decide +kernel
theorem dJ7_copyOf_6403c_35 : decode cJ7_copyOf_6403c 35 = .ok (.invokestatic 150, 3) := by decide +kernel
theorem dJ7_copyOf_6403c_38 : decode cJ7_copyOf_6403c 38 = .ok (.aload_n 3, 1) := by decide +kernel
theorem dJ7_copyOf_6403c_39 : decode cJ7_copyOf_6403c 39 = .ok (.areturn, 1) := by decide +kernel
theorem dJ15_checkIndex_7cf53_0 : decode cJ15_checkIndex_7cf53 0 = .ok (.iload_n 0, 1) := by decide +kernel
theorem dJ15_checkIndex_7cf53_1 : decode cJ15_checkIndex_7cf53 1 = .ok (.iload_n 1, 1) := by decide +kernel
theorem dJ15_checkIndex_7cf53_2 : decode cJ15_checkIndex_7cf53 2 = .ok (.aconst_null, 1) := by decide +kernel
theorem dJ15_checkIndex_7cf53_3 : decode cJ15_checkIndex_7cf53 3 = .ok (.invokestatic 105, 3) := by decide +kernel
theorem dJ15_checkIndex_7cf53_6 : decode cJ15_checkIndex_7cf53 6 = .ok (.ireturn, 1) := by decide +kernel
theorem dJ8_newLength_cabcc_0 : decode cJ8_newLength_cabcc 0 = .ok (.iload_n 0, 1) := by decide +kernel
theorem dJ8_newLength_cabcc_1 : decode cJ8_newLength_cabcc 1 = .ok (.iload_n 1, 1) := by decide +kernel
theorem dJ8_newLength_cabcc_2 : decode cJ8_newLength_cabcc 2 = .ok (.iload_n 2, 1) := by decide +kernel
theorem dJ8_newLength_cabcc_3 : decode cJ8_newLength_cabcc 3 = .ok (.invokestatic 194, 3) := by decide +kernel
theorem dJ8_newLength_cabcc_6 : decode cJ8_newLength_cabcc 6 = .ok (.iadd, 1) := by decide +kernel
theorem dJ8_newLength_cabcc_7 : decode cJ8_newLength_cabcc 7 = .ok (.istore_n 3, 1) := by decide +kernel
theorem dJ8_newLength_cabcc_8 : decode cJ8_newLength_cabcc 8 = .ok (.iconst 0, 1) := by decide +kernel
theorem dJ8_newLength_cabcc_9 : decode cJ8_newLength_cabcc 9 = .ok (.iload_n 3, 1) := by decide +kernel
theorem dJ8_newLength_cabcc_10 : decode cJ8_newLength_cabcc 10 = .ok (.if_icmp .ge 11, 3) := by decide +kernel
theorem dJ8_newLength_cabcc_13 : decode cJ8_newLength_cabcc 13 = .ok (.iload_n 3, 1) := by decide +kernel
theorem dJ8_newLength_cabcc_14 : decode cJ8_newLength_cabcc 14 = .ok (.ldc 200, 2) := by decide +kernel
theorem dJ8_newLength_cabcc_16 : decode cJ8_newLength_cabcc 16 = .ok (.if_icmp .gt 5, 3) := by decide +kernel
theorem dJ8_newLength_cabcc_19 : decode cJ8_newLength_cabcc 19 = .ok (.iload_n 3, 1) := by decide +kernel
theorem dJ8_newLength_cabcc_20 : decode cJ8_newLength_cabcc 20 = .ok (.ireturn, 1) := by decide +kernel
theorem dJ8_newLength_cabcc_21 : decode cJ8_newLength_cabcc 21 = .ok (.iload_n 0, 1) := by decide +kernel
theorem dJ8_newLength_cabcc_22 : decode cJ8_newLength_cabcc 22 = .ok (.iload_n 1, 1) := by decide +kernel
theorem dJ8_newLength_cabcc_23 : decode cJ8_newLength_cabcc 23 = .ok (.invokestatic 201, 3) := by decide +kernel
theorem dJ8_newLength_cabcc_26 : decode cJ8_newLength_cabcc 26 = .ok (.ireturn, 1) := by decide +kernel
theorem dJ8_hugeLength_7cf53_0 : decode cJ8_hugeLength_7cf53 0 = .ok (.iload_n 0, 1) := by decide +kernel
theorem dJ8_hugeLength_7cf53_1 : decode cJ8_hugeLength_7cf53 1 = .ok (.iload_n 1, 1) := by decide +kernel
theorem dJ8_hugeLength_7cf53_2 : decode cJ8_hugeLength_7cf53 2 = .ok (.iadd, 1) := by decide +kernel
theorem dJ8_hugeLength_7cf53_3 : decode cJ8_hugeLength_7cf53 3 = .ok (.istore_n 2, 1) := by decide +kernel
theorem dJ8_hugeLength_7cf53_4 : decode cJ8_hugeLength_7cf53 4 = .ok (.iload_n 2, 1) := by decide +kernel
theorem dJ8_hugeLength_7cf53_5 : decode cJ8_hugeLength_7cf53 5 = .ok (.ifCond .ge 44, 3) := by decide +kernel
theorem dJ8_hugeLength_7cf53_8 : decode cJ8_hugeLength_7cf53 8 = .ok (.new 204, 3) := by decide +kernel
theorem dJ8_hugeLength_7cf53_11 : decode cJ8_hugeLength_7cf53 11 = .ok (.dup, 1) := by decide +kernel
theorem dJ8_hugeLength_7cf53_12 : decode cJ8_hugeLength_7cf53 12 = .ok (.new 89, 3) := by decide +kernel
theorem dJ8_hugeLength_7cf53_15 : decode cJ8_hugeLength_7cf53 15 = .ok (.dup, 1) := by decide +kernel
theorem dJ8_hugeLength_7cf53_16 : decode cJ8_hugeLength_7cf53 16 = .ok (.invokespecial 91, 3) := by decide +kernel
theorem dJ8_hugeLength_7cf53_19 : decode cJ8_hugeLength_7cf53 19 = .ok (.ldc 206, 2) := by decide +kernel
theorem dJ8_hugeLength_7cf53_21 : decode cJ8_hugeLength_7cf53 21 = .ok (.invokevirtual 94, 3) := by decide +kernel
theorem dJ8_hugeLength_7cf53_24 : decode cJ8_hugeLength_7cf53 24 = .ok (.iload_n 0, 1) := by decide +kernel
theorem dJ8_hugeLength_7cf53_25 : decode cJ8_hugeLength_7cf53 25 = .ok (.invokevirtual 98, 3) := by decide +kernel
theorem dJ8_hugeLength_7cf53_28 : decode cJ8_hugeLength_7cf53 28 = .ok (.ldc 208, 2) := by decide +kernel
theorem dJ8_hugeLength_7cf53_30 : decode cJ8_hugeLength_7cf53 30 = .ok (.invokevirtual 94, 3) := by decide +kernel
theorem dJ8_hugeLength_7cf53_33 : decode cJ8_hugeLength_7cf53 33 = .ok (.iload_n 1, 1) := by decide +kernel
theorem dJ8_hugeLength_7cf53_34 : decode cJ8_hugeLength_7cf53 34 = .ok (.invokevirtual 98, 3) := by decide +kernel
theorem dJ8_hugeLength_7cf53_37 : decode cJ8_hugeLength_7cf53 37 = .ok (.ldc 210, 2) := by decide +kernel
theorem dJ8_hugeLength_7cf53_39 : decode cJ8_hugeLength_7cf53 39 = .ok (.invokevirtual 94, 3) := by decide +kernel
theorem dJ8_hugeLength_7cf53_42 : decode cJ8_hugeLength_7cf53 42 = .ok (.invokevirtual 101, 3) := by decide +kernel
theorem dJ8_hugeLength_7cf53_45 : decode cJ8_hugeLength_7cf53 45 = .ok (.invokespecial 212, 3) := by decide +kernel
theorem dJ8_hugeLength_7cf53_48 : decode cJ8_hugeLength_7cf53 48 = .ok (.athrow, 1) := by decide +kernel
theorem dJ8_hugeLength_7cf53_49 : decode cJ8_hugeLength_7cf53 49 = .ok (.iload_n 2, 1) := by decide +kernel
theorem dJ8_hugeLength_7cf53_50 : decode cJ8_hugeLength_7cf53 50 = .ok (.ldc 200, 2) := by decide +kernel
theorem dJ8_hugeLength_7cf53_52 : decode cJ8_hugeLength_7cf53 52 = .ok (.if_icmp .gt 6, 3) := by decide +kernel
theorem dJ8_hugeLength_7cf53_55 : decode cJ8_hugeLength_7cf53 55 = .ok (.ldc 200, 2) := by decide +kernel
theorem dJ8_hugeLength_7cf53_57 : decode cJ8_hugeLength_7cf53 57 = .ok (.ireturn, 1) := by decide +kernel
theorem dJ8_hugeLength_7cf53_58 : decode cJ8_hugeLength_7cf53 58 = .ok (.iload_n 2, 1) := by decide +kernel
theorem dJ8_hugeLength_7cf53_59 : decode cJ8_hugeLength_7cf53 59 = .ok (.ireturn, 1) := by decide +kernel
theorem dJ3_checkIndex_8e157_0 : decode cJ3_checkIndex_8e157 0 = .ok (.iload_n 0, 1) := by decide +kernel
theorem dJ3_checkIndex_8e157_1 : decode cJ3_checkIndex_8e157 1 = .ok (.ifCond .lt 8, 3) := by decide +kernel
theorem dJ3_checkIndex_8e157_4 : decode cJ3_checkIndex_8e157 4 = .ok (.iload_n 0, 1) := by decide +kernel
theorem dJ3_checkIndex_8e157_5 : decode cJ3_checkIndex_8e157 5 = .ok (.iload_n 1, 1) := by decide +kernel
theorem dJ3_checkIndex_8e157_6 : decode cJ3_checkIndex_8e157 6 = .ok (.if_icmp .lt 10, 3) := by decide +kernel
theorem dJ3_checkIndex_8e157_9 : decode cJ3_checkIndex_8e157 9 = .ok (.aload_n 2, 1) := by decide +kernel
theorem dJ3_checkIndex_8e157_10 : decode cJ3_checkIndex_8e157 10 = .ok (.iload_n 0, 1) := by decide +kernel
theorem dJ3_checkIndex_8e157_11 : decode cJ3_checkIndex_8e157 11 = .ok (.iload_n 1, 1) := by decide +kernel
theorem dJ3_checkIndex_8e157_12 : decode cJ3_checkIndex_8e157 12 = .ok (.invokestatic 95, 3) := by decide +kernel
theorem dJ3_checkIndex_8e157_15 : decode cJ3_checkIndex_8e157 15 = .ok (.athrow, 1) := by decide +kernel
theorem dJ3_checkIndex_8e157_16 : decode cJ3_checkIndex_8e157 16 = .ok (.iload_n 0, 1) := by decide +kernel
theorem dJ3_checkIndex_8e157_17 : decode cJ3_checkIndex_8e157 17 = .ok (.ireturn, 1) := by decide +kernel
theorem dL_addFloor_0 : decode cL_addFloor 0 = .ok (.aload_n 3, 1) := by decide +kernel
theorem dL_addFloor_1 : decode cL_addFloor 1 = .ok (.iconst 0, 1) := by decide +kernel
theorem dL_addFloor_2 : decode cL_addFloor 2 = .ok (.aload_n 0, 1) := by decide +kernel
theorem dL_addFloor_3 : decode cL_addFloor 3 = .ok (.iload_n 1, 1) := by decide +kernel
theorem dL_addFloor_4 : decode cL_addFloor 4 = .ok (.iload_n 2, 1) := by decide +kernel
theorem dL_addFloor_5 : decode cL_addFloor 5 = .ok (.invokevirtual 7, 3) := by decide +kernel
theorem dL_addFloor_8 : decode cL_addFloor 8 = .ok (.i2l, 1) := by decide +kernel
theorem dL_addFloor_9 : decode cL_addFloor 9 = .ok (.lastore, 1) := by decide +kernel
theorem dL_addFloor_10 : decode cL_addFloor 10 = .ok (.goto 11, 3) := by decide +kernel
theorem dL_addFloor_13 : decode cL_addFloor 13 = .ok (.astore 4, 2) := by decide +kernel
theorem dL_addFloor_15 : decode cL_addFloor 15 = .ok (.iconst 1, 1) := by decide +kernel
theorem dL_addFloor_16 : decode cL_addFloor 16 = .ok (.ireturn, 1) := by decide +kernel
theorem dL_addFloor_17 : decode cL_addFloor 17 = .ok (.astore 4, 2) := by decide +kernel
theorem dL_addFloor_19 : decode cL_addFloor 19 = .ok (.iconst 2, 1) := by decide +kernel
theorem dL_addFloor_20 : decode cL_addFloor 20 = .ok (.ireturn, 1) := by decide +kernel
theorem dL_addFloor_21 : decode cL_addFloor 21 = .ok (.iconst 0, 1) := by decide +kernel
theorem dL_addFloor_22 : decode cL_addFloor 22 = .ok (.ireturn, 1) := by decide +kernel
theorem dL_setCost_0 : decode cL_setCost 0 = .ok (.aload_n 3, 1) := by decide +kernel
theorem dL_setCost_1 : decode cL_setCost 1 = .ok (.iconst 0, 1) := by decide +kernel
theorem dL_setCost_2 : decode cL_setCost 2 = .ok (.aload_n 0, 1) := by decide +kernel
theorem dL_setCost_3 : decode cL_setCost 3 = .ok (.iload_n 1, 1) := by decide +kernel
theorem dL_setCost_4 : decode cL_setCost 4 = .ok (.iload_n 2, 1) := by decide +kernel
theorem dL_setCost_5 : decode cL_setCost 5 = .ok (.invokevirtual 17, 3) := by decide +kernel
theorem dL_setCost_8 : decode cL_setCost 8 = .ok (.i2l, 1) := by decide +kernel
theorem dL_setCost_9 : decode cL_setCost 9 = .ok (.lastore, 1) := by decide +kernel
theorem dL_setCost_10 : decode cL_setCost 10 = .ok (.goto 11, 3) := by decide +kernel
theorem dL_setCost_13 : decode cL_setCost 13 = .ok (.astore 4, 2) := by decide +kernel
theorem dL_setCost_15 : decode cL_setCost 15 = .ok (.iconst 1, 1) := by decide +kernel
theorem dL_setCost_16 : decode cL_setCost 16 = .ok (.ireturn, 1) := by decide +kernel
theorem dL_setCost_17 : decode cL_setCost 17 = .ok (.astore 4, 2) := by decide +kernel
theorem dL_setCost_19 : decode cL_setCost 19 = .ok (.iconst 2, 1) := by decide +kernel
theorem dL_setCost_20 : decode cL_setCost 20 = .ok (.ireturn, 1) := by decide +kernel
theorem dL_setCost_21 : decode cL_setCost 21 = .ok (.iconst 0, 1) := by decide +kernel
theorem dL_setCost_22 : decode cL_setCost 22 = .ok (.ireturn, 1) := by decide +kernel
theorem dL_addPerson_0 : decode cL_addPerson 0 = .ok (.aload_n 2, 1) := by decide +kernel
theorem dL_addPerson_1 : decode cL_addPerson 1 = .ok (.iconst 0, 1) := by decide +kernel
theorem dL_addPerson_2 : decode cL_addPerson 2 = .ok (.aload_n 0, 1) := by decide +kernel
theorem dL_addPerson_3 : decode cL_addPerson 3 = .ok (.iload_n 1, 1) := by decide +kernel
theorem dL_addPerson_4 : decode cL_addPerson 4 = .ok (.invokevirtual 22, 3) := by decide +kernel
theorem dL_addPerson_7 : decode cL_addPerson 7 = .ok (.i2l, 1) := by decide +kernel
theorem dL_addPerson_8 : decode cL_addPerson 8 = .ok (.lastore, 1) := by decide +kernel
theorem dL_addPerson_9 : decode cL_addPerson 9 = .ok (.goto 9, 3) := by decide +kernel
theorem dL_addPerson_12 : decode cL_addPerson 12 = .ok (.astore_n 3, 1) := by decide +kernel
theorem dL_addPerson_13 : decode cL_addPerson 13 = .ok (.iconst 1, 1) := by decide +kernel
theorem dL_addPerson_14 : decode cL_addPerson 14 = .ok (.ireturn, 1) := by decide +kernel
theorem dL_addPerson_15 : decode cL_addPerson 15 = .ok (.astore_n 3, 1) := by decide +kernel
theorem dL_addPerson_16 : decode cL_addPerson 16 = .ok (.iconst 2, 1) := by decide +kernel
theorem dL_addPerson_17 : decode cL_addPerson 17 = .ok (.ireturn, 1) := by decide +kernel
theorem dL_addPerson_18 : decode cL_addPerson 18 = .ok (.iconst 0, 1) := by decide +kernel
theorem dL_addPerson_19 : decode cL_addPerson 19 = .ok (.ireturn, 1) := by decide +kernel
theorem dL_standing_0 : decode cL_standing 0 = .ok (.aload_n 2, 1) := by decide +kernel
theorem dL_standing_1 : decode cL_standing 1 = .ok (.iconst 0, 1) := by decide +kernel
theorem dL_standing_2 : decode cL_standing 2 = .ok (.aload_n 0, 1) := by decide +kernel
theorem dL_standing_3 : decode cL_standing 3 = .ok (.iload_n 1, 1) := by decide +kernel
theorem dL_standing_4 : decode cL_standing 4 = .ok (.invokevirtual 26, 3) := by decide +kernel
theorem dL_standing_7 : decode cL_standing 7 = .ok (.i2l, 1) := by decide +kernel
theorem dL_standing_8 : decode cL_standing 8 = .ok (.lastore, 1) := by decide +kernel
theorem dL_standing_9 : decode cL_standing 9 = .ok (.goto 6, 3) := by decide +kernel
theorem dL_standing_12 : decode cL_standing 12 = .ok (.astore_n 3, 1) := by decide +kernel
theorem dL_standing_13 : decode cL_standing 13 = .ok (.iconst 1, 1) := by decide +kernel
theorem dL_standing_14 : decode cL_standing 14 = .ok (.ireturn, 1) := by decide +kernel
theorem dL_standing_15 : decode cL_standing 15 = .ok (.iconst 0, 1) := by decide +kernel
theorem dL_standing_16 : decode cL_standing 16 = .ok (.ireturn, 1) := by decide +kernel
theorem dL_book_0 : decode cL_book 0 = .ok (.aload_n 3, 1) := by decide +kernel
theorem dL_book_1 : decode cL_book 1 = .ok (.iconst 0, 1) := by decide +kernel
theorem dL_book_2 : decode cL_book 2 = .ok (.aload_n 0, 1) := by decide +kernel
theorem dL_book_3 : decode cL_book 3 = .ok (.iload_n 1, 1) := by decide +kernel
theorem dL_book_4 : decode cL_book 4 = .ok (.iload_n 2, 1) := by decide +kernel
theorem dL_book_5 : decode cL_book 5 = .ok (.invokevirtual 31, 3) := by decide +kernel
theorem dL_book_8 : decode cL_book 8 = .ok (.i2l, 1) := by decide +kernel
theorem dL_book_9 : decode cL_book 9 = .ok (.lastore, 1) := by decide +kernel
theorem dL_book_10 : decode cL_book 10 = .ok (.goto 19, 3) := by decide +kernel
theorem dL_book_13 : decode cL_book 13 = .ok (.astore 4, 2) := by decide +kernel
theorem dL_book_15 : decode cL_book 15 = .ok (.iconst 1, 1) := by decide +kernel
theorem dL_book_16 : decode cL_book 16 = .ok (.ireturn, 1) := by decide +kernel
theorem dL_book_17 : decode cL_book 17 = .ok (.astore 4, 2) := by decide +kernel
theorem dL_book_19 : decode cL_book 19 = .ok (.iconst 2, 1) := by decide +kernel
theorem dL_book_20 : decode cL_book 20 = .ok (.ireturn, 1) := by decide +kernel
theorem dL_book_21 : decode cL_book 21 = .ok (.astore 4, 2) := by decide +kernel
theorem dL_book_23 : decode cL_book 23 = .ok (.iconst 3, 1) := by decide +kernel
theorem dL_book_24 : decode cL_book 24 = .ok (.ireturn, 1) := by decide +kernel
theorem dL_book_25 : decode cL_book 25 = .ok (.astore 4, 2) := by decide +kernel
theorem dL_book_27 : decode cL_book 27 = .ok (.iconst 4, 1) := by decide +kernel
theorem dL_book_28 : decode cL_book 28 = .ok (.ireturn, 1) := by decide +kernel
theorem dL_book_29 : decode cL_book 29 = .ok (.iconst 0, 1) := by decide +kernel
theorem dL_book_30 : decode cL_book 30 = .ok (.ireturn, 1) := by decide +kernel
theorem dL_cancel_0 : decode cL_cancel 0 = .ok (.aload_n 2, 1) := by decide +kernel
theorem dL_cancel_1 : decode cL_cancel 1 = .ok (.iconst 0, 1) := by decide +kernel
theorem dL_cancel_2 : decode cL_cancel 2 = .ok (.aload_n 0, 1) := by decide +kernel
theorem dL_cancel_3 : decode cL_cancel 3 = .ok (.iload_n 1, 1) := by decide +kernel
theorem dL_cancel_4 : decode cL_cancel 4 = .ok (.invokevirtual 36, 3) := by decide +kernel
theorem dL_cancel_7 : decode cL_cancel 7 = .ok (.i2l, 1) := by decide +kernel
theorem dL_cancel_8 : decode cL_cancel 8 = .ok (.lastore, 1) := by decide +kernel
theorem dL_cancel_9 : decode cL_cancel 9 = .ok (.goto 6, 3) := by decide +kernel
theorem dL_cancel_12 : decode cL_cancel 12 = .ok (.astore_n 3, 1) := by decide +kernel
theorem dL_cancel_13 : decode cL_cancel 13 = .ok (.iconst 1, 1) := by decide +kernel
theorem dL_cancel_14 : decode cL_cancel 14 = .ok (.ireturn, 1) := by decide +kernel
theorem dL_cancel_15 : decode cL_cancel 15 = .ok (.iconst 0, 1) := by decide +kernel
theorem dL_cancel_16 : decode cL_cancel 16 = .ok (.ireturn, 1) := by decide +kernel
theorem dL_bookingAt_0 : decode cL_bookingAt 0 = .ok (.aload_n 2, 1) := by decide +kernel
theorem dL_bookingAt_1 : decode cL_bookingAt 1 = .ok (.iconst 0, 1) := by decide +kernel
theorem dL_bookingAt_2 : decode cL_bookingAt 2 = .ok (.aload_n 0, 1) := by decide +kernel
theorem dL_bookingAt_3 : decode cL_bookingAt 3 = .ok (.iload_n 1, 1) := by decide +kernel
theorem dL_bookingAt_4 : decode cL_bookingAt 4 = .ok (.invokevirtual 39, 3) := by decide +kernel
theorem dL_bookingAt_7 : decode cL_bookingAt 7 = .ok (.i2l, 1) := by decide +kernel
theorem dL_bookingAt_8 : decode cL_bookingAt 8 = .ok (.lastore, 1) := by decide +kernel
theorem dL_bookingAt_9 : decode cL_bookingAt 9 = .ok (.goto 6, 3) := by decide +kernel
theorem dL_bookingAt_12 : decode cL_bookingAt 12 = .ok (.astore_n 3, 1) := by decide +kernel
theorem dL_bookingAt_13 : decode cL_bookingAt 13 = .ok (.iconst 1, 1) := by decide +kernel
theorem dL_bookingAt_14 : decode cL_bookingAt 14 = .ok (.ireturn, 1) := by decide +kernel
theorem dL_bookingAt_15 : decode cL_bookingAt 15 = .ok (.iconst 0, 1) := by decide +kernel
theorem dL_bookingAt_16 : decode cL_bookingAt 16 = .ok (.ireturn, 1) := by decide +kernel
theorem dL_lossOf_0 : decode cL_lossOf 0 = .ok (.aload_n 2, 1) := by decide +kernel
theorem dL_lossOf_1 : decode cL_lossOf 1 = .ok (.iconst 0, 1) := by decide +kernel
theorem dL_lossOf_2 : decode cL_lossOf 2 = .ok (.aload_n 0, 1) := by decide +kernel
theorem dL_lossOf_3 : decode cL_lossOf 3 = .ok (.iload_n 1, 1) := by decide +kernel
theorem dL_lossOf_4 : decode cL_lossOf 4 = .ok (.invokevirtual 42, 3) := by decide +kernel
theorem dL_lossOf_7 : decode cL_lossOf 7 = .ok (.i2l, 1) := by decide +kernel
theorem dL_lossOf_8 : decode cL_lossOf 8 = .ok (.lastore, 1) := by decide +kernel
theorem dL_lossOf_9 : decode cL_lossOf 9 = .ok (.goto 9, 3) := by decide +kernel
theorem dL_lossOf_12 : decode cL_lossOf 12 = .ok (.astore_n 3, 1) := by decide +kernel
theorem dL_lossOf_13 : decode cL_lossOf 13 = .ok (.iconst 1, 1) := by decide +kernel
theorem dL_lossOf_14 : decode cL_lossOf 14 = .ok (.ireturn, 1) := by decide +kernel
theorem dL_lossOf_15 : decode cL_lossOf 15 = .ok (.astore_n 3, 1) := by decide +kernel
theorem dL_lossOf_16 : decode cL_lossOf 16 = .ok (.iconst 2, 1) := by decide +kernel
theorem dL_lossOf_17 : decode cL_lossOf 17 = .ok (.ireturn, 1) := by decide +kernel
theorem dL_lossOf_18 : decode cL_lossOf 18 = .ok (.iconst 0, 1) := by decide +kernel
theorem dL_lossOf_19 : decode cL_lossOf 19 = .ok (.ireturn, 1) := by decide +kernel
theorem dL_nextDay_0 : decode cL_nextDay 0 = .ok (.aload_n 1, 1) := by decide +kernel
theorem dL_nextDay_1 : decode cL_nextDay 1 = .ok (.iconst 0, 1) := by decide +kernel
theorem dL_nextDay_2 : decode cL_nextDay 2 = .ok (.aload_n 0, 1) := by decide +kernel
theorem dL_nextDay_3 : decode cL_nextDay 3 = .ok (.invokevirtual 45, 3) := by decide +kernel
theorem dL_nextDay_6 : decode cL_nextDay 6 = .ok (.i2l, 1) := by decide +kernel
theorem dL_nextDay_7 : decode cL_nextDay 7 = .ok (.lastore, 1) := by decide +kernel
theorem dL_nextDay_8 : decode cL_nextDay 8 = .ok (.goto 6, 3) := by decide +kernel
theorem dL_nextDay_11 : decode cL_nextDay 11 = .ok (.astore_n 2, 1) := by decide +kernel
theorem dL_nextDay_12 : decode cL_nextDay 12 = .ok (.iconst 1, 1) := by decide +kernel
theorem dL_nextDay_13 : decode cL_nextDay 13 = .ok (.ireturn, 1) := by decide +kernel
theorem dL_nextDay_14 : decode cL_nextDay 14 = .ok (.iconst 0, 1) := by decide +kernel
theorem dL_nextDay_15 : decode cL_nextDay 15 = .ok (.ireturn, 1) := by decide +kernel
theorem dL_comeIn_0 : decode cL_comeIn 0 = .ok (.aload_n 2, 1) := by decide +kernel
theorem dL_comeIn_1 : decode cL_comeIn 1 = .ok (.iconst 0, 1) := by decide +kernel
theorem dL_comeIn_2 : decode cL_comeIn 2 = .ok (.aload_n 0, 1) := by decide +kernel
theorem dL_comeIn_3 : decode cL_comeIn 3 = .ok (.iload_n 1, 1) := by decide +kernel
theorem dL_comeIn_4 : decode cL_comeIn 4 = .ok (.invokevirtual 49, 3) := by decide +kernel
theorem dL_comeIn_7 : decode cL_comeIn 7 = .ok (.i2l, 1) := by decide +kernel
theorem dL_comeIn_8 : decode cL_comeIn 8 = .ok (.lastore, 1) := by decide +kernel
theorem dL_comeIn_9 : decode cL_comeIn 9 = .ok (.goto 9, 3) := by decide +kernel
theorem dL_comeIn_12 : decode cL_comeIn 12 = .ok (.astore_n 3, 1) := by decide +kernel
theorem dL_comeIn_13 : decode cL_comeIn 13 = .ok (.iconst 1, 1) := by decide +kernel
theorem dL_comeIn_14 : decode cL_comeIn 14 = .ok (.ireturn, 1) := by decide +kernel
theorem dL_comeIn_15 : decode cL_comeIn 15 = .ok (.astore_n 3, 1) := by decide +kernel
theorem dL_comeIn_16 : decode cL_comeIn 16 = .ok (.iconst 2, 1) := by decide +kernel
theorem dL_comeIn_17 : decode cL_comeIn 17 = .ok (.ireturn, 1) := by decide +kernel
theorem dL_comeIn_18 : decode cL_comeIn 18 = .ok (.iconst 0, 1) := by decide +kernel
theorem dL_comeIn_19 : decode cL_comeIn 19 = .ok (.ireturn, 1) := by decide +kernel
theorem dL_leave_0 : decode cL_leave 0 = .ok (.aload_n 2, 1) := by decide +kernel
theorem dL_leave_1 : decode cL_leave 1 = .ok (.iconst 0, 1) := by decide +kernel
theorem dL_leave_2 : decode cL_leave 2 = .ok (.aload_n 0, 1) := by decide +kernel
theorem dL_leave_3 : decode cL_leave 3 = .ok (.iload_n 1, 1) := by decide +kernel
theorem dL_leave_4 : decode cL_leave 4 = .ok (.invokevirtual 52, 3) := by decide +kernel
theorem dL_leave_7 : decode cL_leave 7 = .ok (.i2l, 1) := by decide +kernel
theorem dL_leave_8 : decode cL_leave 8 = .ok (.lastore, 1) := by decide +kernel
theorem dL_leave_9 : decode cL_leave 9 = .ok (.goto 9, 3) := by decide +kernel
theorem dL_leave_12 : decode cL_leave 12 = .ok (.astore_n 3, 1) := by decide +kernel
theorem dL_leave_13 : decode cL_leave 13 = .ok (.iconst 1, 1) := by decide +kernel
theorem dL_leave_14 : decode cL_leave 14 = .ok (.ireturn, 1) := by decide +kernel
theorem dL_leave_15 : decode cL_leave 15 = .ok (.astore_n 3, 1) := by decide +kernel
theorem dL_leave_16 : decode cL_leave 16 = .ok (.iconst 2, 1) := by decide +kernel
theorem dL_leave_17 : decode cL_leave 17 = .ok (.ireturn, 1) := by decide +kernel
theorem dL_leave_18 : decode cL_leave 18 = .ok (.iconst 0, 1) := by decide +kernel
theorem dL_leave_19 : decode cL_leave 19 = .ok (.ireturn, 1) := by decide +kernel
theorem dL_seatOf_0 : decode cL_seatOf 0 = .ok (.aload_n 2, 1) := by decide +kernel
theorem dL_seatOf_1 : decode cL_seatOf 1 = .ok (.iconst 0, 1) := by decide +kernel
theorem dL_seatOf_2 : decode cL_seatOf 2 = .ok (.aload_n 0, 1) := by decide +kernel
theorem dL_seatOf_3 : decode cL_seatOf 3 = .ok (.iload_n 1, 1) := by decide +kernel
theorem dL_seatOf_4 : decode cL_seatOf 4 = .ok (.invokevirtual 55, 3) := by decide +kernel
theorem dL_seatOf_7 : decode cL_seatOf 7 = .ok (.i2l, 1) := by decide +kernel
theorem dL_seatOf_8 : decode cL_seatOf 8 = .ok (.lastore, 1) := by decide +kernel
theorem dL_seatOf_9 : decode cL_seatOf 9 = .ok (.goto 6, 3) := by decide +kernel
theorem dL_seatOf_12 : decode cL_seatOf 12 = .ok (.astore_n 3, 1) := by decide +kernel
theorem dL_seatOf_13 : decode cL_seatOf 13 = .ok (.iconst 1, 1) := by decide +kernel
theorem dL_seatOf_14 : decode cL_seatOf 14 = .ok (.ireturn, 1) := by decide +kernel
theorem dL_seatOf_15 : decode cL_seatOf 15 = .ok (.iconst 0, 1) := by decide +kernel
theorem dL_seatOf_16 : decode cL_seatOf 16 = .ok (.ireturn, 1) := by decide +kernel
theorem dL_isIn_0 : decode cL_isIn 0 = .ok (.aload_n 2, 1) := by decide +kernel
theorem dL_isIn_1 : decode cL_isIn 1 = .ok (.iconst 0, 1) := by decide +kernel
theorem dL_isIn_2 : decode cL_isIn 2 = .ok (.aload_n 0, 1) := by decide +kernel
theorem dL_isIn_3 : decode cL_isIn 3 = .ok (.iload_n 1, 1) := by decide +kernel
theorem dL_isIn_4 : decode cL_isIn 4 = .ok (.invokevirtual 58, 3) := by decide +kernel
theorem dL_isIn_7 : decode cL_isIn 7 = .ok (.ifCond .eq 7, 3) := by decide +kernel
theorem dL_isIn_10 : decode cL_isIn 10 = .ok (.lconst 1, 1) := by decide +kernel
theorem dL_isIn_11 : decode cL_isIn 11 = .ok (.goto 4, 3) := by decide +kernel
theorem dL_isIn_14 : decode cL_isIn 14 = .ok (.lconst 0, 1) := by decide +kernel
theorem dL_isIn_15 : decode cL_isIn 15 = .ok (.lastore, 1) := by decide +kernel
theorem dL_isIn_16 : decode cL_isIn 16 = .ok (.goto 6, 3) := by decide +kernel
theorem dL_isIn_19 : decode cL_isIn 19 = .ok (.astore_n 3, 1) := by decide +kernel
theorem dL_isIn_20 : decode cL_isIn 20 = .ok (.iconst 1, 1) := by decide +kernel
theorem dL_isIn_21 : decode cL_isIn 21 = .ok (.ireturn, 1) := by decide +kernel
theorem dL_isIn_22 : decode cL_isIn 22 = .ok (.iconst 0, 1) := by decide +kernel
theorem dL_isIn_23 : decode cL_isIn 23 = .ok (.ireturn, 1) := by decide +kernel
theorem dL_isOpen_0 : decode cL_isOpen 0 = .ok (.aload_n 2, 1) := by decide +kernel
theorem dL_isOpen_1 : decode cL_isOpen 1 = .ok (.iconst 0, 1) := by decide +kernel
theorem dL_isOpen_2 : decode cL_isOpen 2 = .ok (.aload_n 0, 1) := by decide +kernel
theorem dL_isOpen_3 : decode cL_isOpen 3 = .ok (.iload_n 1, 1) := by decide +kernel
theorem dL_isOpen_4 : decode cL_isOpen 4 = .ok (.invokevirtual 62, 3) := by decide +kernel
theorem dL_isOpen_7 : decode cL_isOpen 7 = .ok (.ifCond .eq 7, 3) := by decide +kernel
theorem dL_isOpen_10 : decode cL_isOpen 10 = .ok (.lconst 1, 1) := by decide +kernel
theorem dL_isOpen_11 : decode cL_isOpen 11 = .ok (.goto 4, 3) := by decide +kernel
theorem dL_isOpen_14 : decode cL_isOpen 14 = .ok (.lconst 0, 1) := by decide +kernel
theorem dL_isOpen_15 : decode cL_isOpen 15 = .ok (.lastore, 1) := by decide +kernel
theorem dL_isOpen_16 : decode cL_isOpen 16 = .ok (.goto 6, 3) := by decide +kernel
theorem dL_isOpen_19 : decode cL_isOpen 19 = .ok (.astore_n 3, 1) := by decide +kernel
theorem dL_isOpen_20 : decode cL_isOpen 20 = .ok (.iconst 1, 1) := by decide +kernel
theorem dL_isOpen_21 : decode cL_isOpen 21 = .ok (.ireturn, 1) := by decide +kernel
theorem dL_isOpen_22 : decode cL_isOpen 22 = .ok (.iconst 0, 1) := by decide +kernel
theorem dL_isOpen_23 : decode cL_isOpen 23 = .ok (.ireturn, 1) := by decide +kernel
theorem dL_seated_0 : decode cL_seated 0 = .ok (.aload_n 3, 1) := by decide +kernel
theorem dL_seated_1 : decode cL_seated 1 = .ok (.iconst 0, 1) := by decide +kernel
theorem dL_seated_2 : decode cL_seated 2 = .ok (.aload_n 0, 1) := by decide +kernel
theorem dL_seated_3 : decode cL_seated 3 = .ok (.iload_n 1, 1) := by decide +kernel
theorem dL_seated_4 : decode cL_seated 4 = .ok (.iload_n 2, 1) := by decide +kernel
theorem dL_seated_5 : decode cL_seated 5 = .ok (.invokevirtual 65, 3) := by decide +kernel
theorem dL_seated_8 : decode cL_seated 8 = .ok (.i2l, 1) := by decide +kernel
theorem dL_seated_9 : decode cL_seated 9 = .ok (.lastore, 1) := by decide +kernel
theorem dL_seated_10 : decode cL_seated 10 = .ok (.goto 11, 3) := by decide +kernel
theorem dL_seated_13 : decode cL_seated 13 = .ok (.astore 4, 2) := by decide +kernel
theorem dL_seated_15 : decode cL_seated 15 = .ok (.iconst 1, 1) := by decide +kernel
theorem dL_seated_16 : decode cL_seated 16 = .ok (.ireturn, 1) := by decide +kernel
theorem dL_seated_17 : decode cL_seated 17 = .ok (.astore 4, 2) := by decide +kernel
theorem dL_seated_19 : decode cL_seated 19 = .ok (.iconst 2, 1) := by decide +kernel
theorem dL_seated_20 : decode cL_seated 20 = .ok (.ireturn, 1) := by decide +kernel
theorem dL_seated_21 : decode cL_seated 21 = .ok (.iconst 0, 1) := by decide +kernel
theorem dL_seated_22 : decode cL_seated 22 = .ok (.ireturn, 1) := by decide +kernel
theorem dL_pass_0 : decode cL_pass 0 = .ok (.aload_n 2, 1) := by decide +kernel
theorem dL_pass_1 : decode cL_pass 1 = .ok (.iconst 0, 1) := by decide +kernel
theorem dL_pass_2 : decode cL_pass 2 = .ok (.aload_n 0, 1) := by decide +kernel
theorem dL_pass_3 : decode cL_pass 3 = .ok (.iload_n 1, 1) := by decide +kernel
theorem dL_pass_4 : decode cL_pass 4 = .ok (.invokevirtual 68, 3) := by decide +kernel
theorem dL_pass_7 : decode cL_pass 7 = .ok (.i2l, 1) := by decide +kernel
theorem dL_pass_8 : decode cL_pass 8 = .ok (.lastore, 1) := by decide +kernel
theorem dL_pass_9 : decode cL_pass 9 = .ok (.goto 6, 3) := by decide +kernel
theorem dL_pass_12 : decode cL_pass 12 = .ok (.astore_n 3, 1) := by decide +kernel
theorem dL_pass_13 : decode cL_pass 13 = .ok (.iconst 1, 1) := by decide +kernel
theorem dL_pass_14 : decode cL_pass 14 = .ok (.ireturn, 1) := by decide +kernel
theorem dL_pass_15 : decode cL_pass 15 = .ok (.iconst 0, 1) := by decide +kernel
theorem dL_pass_16 : decode cL_pass 16 = .ok (.ireturn, 1) := by decide +kernel
theorem dL_warmth_0 : decode cL_warmth 0 = .ok (.aload_n 2, 1) := by decide +kernel
theorem dL_warmth_1 : decode cL_warmth 1 = .ok (.iconst 0, 1) := by decide +kernel
theorem dL_warmth_2 : decode cL_warmth 2 = .ok (.aload_n 0, 1) := by decide +kernel
theorem dL_warmth_3 : decode cL_warmth 3 = .ok (.iload_n 1, 1) := by decide +kernel
theorem dL_warmth_4 : decode cL_warmth 4 = .ok (.invokevirtual 71, 3) := by decide +kernel
theorem dL_warmth_7 : decode cL_warmth 7 = .ok (.i2l, 1) := by decide +kernel
theorem dL_warmth_8 : decode cL_warmth 8 = .ok (.lastore, 1) := by decide +kernel
theorem dL_warmth_9 : decode cL_warmth 9 = .ok (.goto 6, 3) := by decide +kernel
theorem dL_warmth_12 : decode cL_warmth 12 = .ok (.astore_n 3, 1) := by decide +kernel
theorem dL_warmth_13 : decode cL_warmth 13 = .ok (.iconst 1, 1) := by decide +kernel
theorem dL_warmth_14 : decode cL_warmth 14 = .ok (.ireturn, 1) := by decide +kernel
theorem dL_warmth_15 : decode cL_warmth 15 = .ok (.iconst 0, 1) := by decide +kernel
theorem dL_warmth_16 : decode cL_warmth 16 = .ok (.ireturn, 1) := by decide +kernel
theorem dL_air_0 : decode cL_air 0 = .ok (.aload_n 2, 1) := by decide +kernel
theorem dL_air_1 : decode cL_air 1 = .ok (.iconst 0, 1) := by decide +kernel
theorem dL_air_2 : decode cL_air 2 = .ok (.aload_n 0, 1) := by decide +kernel
theorem dL_air_3 : decode cL_air 3 = .ok (.iload_n 1, 1) := by decide +kernel
theorem dL_air_4 : decode cL_air 4 = .ok (.invokevirtual 74, 3) := by decide +kernel
theorem dL_air_7 : decode cL_air 7 = .ok (.i2l, 1) := by decide +kernel
theorem dL_air_8 : decode cL_air 8 = .ok (.lastore, 1) := by decide +kernel
theorem dL_air_9 : decode cL_air 9 = .ok (.goto 6, 3) := by decide +kernel
theorem dL_air_12 : decode cL_air 12 = .ok (.astore_n 3, 1) := by decide +kernel
theorem dL_air_13 : decode cL_air 13 = .ok (.iconst 1, 1) := by decide +kernel
theorem dL_air_14 : decode cL_air 14 = .ok (.ireturn, 1) := by decide +kernel
theorem dL_air_15 : decode cL_air 15 = .ok (.iconst 0, 1) := by decide +kernel
theorem dL_air_16 : decode cL_air 16 = .ok (.ireturn, 1) := by decide +kernel
theorem dL_meanStanding_0 : decode cL_meanStanding 0 = .ok (.aload_n 1, 1) := by decide +kernel
theorem dL_meanStanding_1 : decode cL_meanStanding 1 = .ok (.iconst 0, 1) := by decide +kernel
theorem dL_meanStanding_2 : decode cL_meanStanding 2 = .ok (.aload_n 0, 1) := by decide +kernel
theorem dL_meanStanding_3 : decode cL_meanStanding 3 = .ok (.invokevirtual 77, 3) := by decide +kernel
theorem dL_meanStanding_6 : decode cL_meanStanding 6 = .ok (.dastore, 1) := by decide +kernel
theorem dL_meanStanding_7 : decode cL_meanStanding 7 = .ok (.goto 6, 3) := by decide +kernel
theorem dL_meanStanding_10 : decode cL_meanStanding 10 = .ok (.astore_n 2, 1) := by decide +kernel
theorem dL_meanStanding_11 : decode cL_meanStanding 11 = .ok (.iconst 1, 1) := by decide +kernel
theorem dL_meanStanding_12 : decode cL_meanStanding 12 = .ok (.ireturn, 1) := by decide +kernel
theorem dL_meanStanding_13 : decode cL_meanStanding 13 = .ok (.iconst 0, 1) := by decide +kernel
theorem dL_meanStanding_14 : decode cL_meanStanding 14 = .ok (.ireturn, 1) := by decide +kernel
theorem dL_givenShare_0 : decode cL_givenShare 0 = .ok (.aload_n 1, 1) := by decide +kernel
theorem dL_givenShare_1 : decode cL_givenShare 1 = .ok (.iconst 0, 1) := by decide +kernel
theorem dL_givenShare_2 : decode cL_givenShare 2 = .ok (.aload_n 0, 1) := by decide +kernel
theorem dL_givenShare_3 : decode cL_givenShare 3 = .ok (.invokevirtual 83, 3) := by decide +kernel
theorem dL_givenShare_6 : decode cL_givenShare 6 = .ok (.f2d, 1) := by decide +kernel
theorem dL_givenShare_7 : decode cL_givenShare 7 = .ok (.dastore, 1) := by decide +kernel
theorem dL_givenShare_8 : decode cL_givenShare 8 = .ok (.goto 6, 3) := by decide +kernel
theorem dL_givenShare_11 : decode cL_givenShare 11 = .ok (.astore_n 2, 1) := by decide +kernel
theorem dL_givenShare_12 : decode cL_givenShare 12 = .ok (.iconst 1, 1) := by decide +kernel
theorem dL_givenShare_13 : decode cL_givenShare 13 = .ok (.ireturn, 1) := by decide +kernel
theorem dL_givenShare_14 : decode cL_givenShare 14 = .ok (.iconst 0, 1) := by decide +kernel
theorem dL_givenShare_15 : decode cL_givenShare 15 = .ok (.ireturn, 1) := by decide +kernel
theorem dL_law_0 : decode cL_law 0 = .ok (.new 8, 3) := by decide +kernel
theorem dL_law_3 : decode cL_law 3 = .ok (.dup, 1) := by decide +kernel
theorem dL_law_4 : decode cL_law 4 = .ok (.invokespecial 87, 3) := by decide +kernel
theorem dL_law_7 : decode cL_law 7 = .ok (.astore_n 1, 1) := by decide +kernel
theorem dL_law_8 : decode cL_law 8 = .ok (.new 88, 3) := by decide +kernel
theorem dL_law_11 : decode cL_law 11 = .ok (.dup, 1) := by decide +kernel
theorem dL_law_12 : decode cL_law 12 = .ok (.invokespecial 90, 3) := by decide +kernel
theorem dL_law_15 : decode cL_law 15 = .ok (.astore_n 2, 1) := by decide +kernel
theorem dL_law_16 : decode cL_law 16 = .ok (.iconst 1, 1) := by decide +kernel
theorem dL_law_17 : decode cL_law 17 = .ok (.newarray .long, 2) := by decide +kernel
theorem dL_law_19 : decode cL_law 19 = .ok (.astore_n 3, 1) := by decide +kernel
theorem dL_law_20 : decode cL_law 20 = .ok (.iconst 1, 1) := by decide +kernel
theorem dL_law_21 : decode cL_law 21 = .ok (.newarray .double, 2) := by decide +kernel
theorem dL_law_23 : decode cL_law 23 = .ok (.astore 4, 2) := by decide +kernel
theorem dL_law_25 : decode cL_law 25 = .ok (.iconst 0, 1) := by decide +kernel
theorem dL_law_26 : decode cL_law 26 = .ok (.istore 5, 2) := by decide +kernel
theorem dL_law_28 : decode cL_law 28 = .ok (.iload 5, 2) := by decide +kernel
theorem dL_law_30 : decode cL_law 30 = .ok (.aload_n 0, 1) := by decide +kernel
theorem dL_law_31 : decode cL_law 31 = .ok (.arraylength, 1) := by decide +kernel
theorem dL_law_32 : decode cL_law 32 = .ok (.iconst 3, 1) := by decide +kernel
theorem dL_law_33 : decode cL_law 33 = .ok (.isub, 1) := by decide +kernel
theorem dL_law_34 : decode cL_law 34 = .ok (.if_icmp .gt 1474, 3) := by decide +kernel
theorem dL_law_37 : decode cL_law 37 = .ok (.aload_n 0, 1) := by decide +kernel
theorem dL_law_38 : decode cL_law 38 = .ok (.iload 5, 2) := by decide +kernel
theorem dL_law_40 : decode cL_law 40 = .ok (.iaload, 1) := by decide +kernel
theorem dL_law_41 : decode cL_law 41 = .ok (.bipush 31, 2) := by decide +kernel
theorem dL_law_43 : decode cL_law 43 = .ok (.iand, 1) := by decide +kernel
theorem dL_law_44 : decode cL_law 44 = .ok (.tableswitch 1458 0 29 #[136, 204, 272, 328, 384, 452, 508, 521, 577, 590, 603, 616, 672, 716, 729, 785, 841, 897, 960, 1023, 1091, 1147, 1203, 1259, 1273, 1287, 1301, 1314, 1379, 1445], 136) := by decide +kernel
theorem dL_law_180 : decode cL_law 180 = .ok (.aload_n 1, 1) := by decide +kernel
theorem dL_law_181 : decode cL_law 181 = .ok (.aload_n 0, 1) := by decide +kernel
theorem dL_law_182 : decode cL_law 182 = .ok (.iload 5, 2) := by decide +kernel
theorem dL_law_184 : decode cL_law 184 = .ok (.iconst 1, 1) := by decide +kernel
theorem dL_law_185 : decode cL_law 185 = .ok (.iadd, 1) := by decide +kernel
theorem dL_law_186 : decode cL_law 186 = .ok (.iaload, 1) := by decide +kernel
theorem dL_law_187 : decode cL_law 187 = .ok (.aload_n 0, 1) := by decide +kernel
theorem dL_law_188 : decode cL_law 188 = .ok (.iload 5, 2) := by decide +kernel
theorem dL_law_190 : decode cL_law 190 = .ok (.iconst 2, 1) := by decide +kernel
theorem dL_law_191 : decode cL_law 191 = .ok (.iadd, 1) := by decide +kernel
theorem dL_law_192 : decode cL_law 192 = .ok (.iaload, 1) := by decide +kernel
theorem dL_law_193 : decode cL_law 193 = .ok (.aload_n 3, 1) := by decide +kernel
theorem dL_law_194 : decode cL_law 194 = .ok (.invokestatic 91, 3) := by decide +kernel
theorem dL_law_197 : decode cL_law 197 = .ok (.istore 6, 2) := by decide +kernel
theorem dL_law_199 : decode cL_law 199 = .ok (.aload_n 2, 1) := by decide +kernel
theorem dL_law_200 : decode cL_law 200 = .ok (.aload_n 0, 1) := by decide +kernel
theorem dL_law_201 : decode cL_law 201 = .ok (.iload 5, 2) := by decide +kernel
theorem dL_law_203 : decode cL_law 203 = .ok (.iconst 1, 1) := by decide +kernel
theorem dL_law_204 : decode cL_law 204 = .ok (.iadd, 1) := by decide +kernel
theorem dL_law_205 : decode cL_law 205 = .ok (.iaload, 1) := by decide +kernel
theorem dL_law_206 : decode cL_law 206 = .ok (.aload_n 0, 1) := by decide +kernel
theorem dL_law_207 : decode cL_law 207 = .ok (.iload 5, 2) := by decide +kernel
theorem dL_law_209 : decode cL_law 209 = .ok (.iconst 2, 1) := by decide +kernel
theorem dL_law_210 : decode cL_law 210 = .ok (.iadd, 1) := by decide +kernel
theorem dL_law_211 : decode cL_law 211 = .ok (.iaload, 1) := by decide +kernel
theorem dL_law_212 : decode cL_law 212 = .ok (.invokevirtual 96, 3) := by decide +kernel
theorem dL_law_215 : decode cL_law 215 = .ok (.istore 7, 2) := by decide +kernel
theorem dL_law_217 : decode cL_law 217 = .ok (.aload_n 2, 1) := by decide +kernel
theorem dL_law_218 : decode cL_law 218 = .ok (.invokevirtual 97, 3) := by decide +kernel
theorem dL_law_221 : decode cL_law 221 = .ok (.iload 6, 2) := by decide +kernel
theorem dL_law_223 : decode cL_law 223 = .ok (.if_icmp .eq 5, 3) := by decide +kernel
theorem dL_law_226 : decode cL_law 226 = .ok (.iconst 0, 1) := by decide +kernel
theorem dL_law_227 : decode cL_law 227 = .ok (.ireturn, 1) := by decide +kernel
theorem dL_law_228 : decode cL_law 228 = .ok (.iload 6, 2) := by decide +kernel
theorem dL_law_230 : decode cL_law 230 = .ok (.ifCond .ne 15, 3) := by decide +kernel
theorem dL_law_233 : decode cL_law 233 = .ok (.aload_n 3, 1) := by decide +kernel
theorem dL_law_234 : decode cL_law 234 = .ok (.iconst 0, 1) := by decide +kernel
theorem dL_law_235 : decode cL_law 235 = .ok (.laload, 1) := by decide +kernel
theorem dL_law_236 : decode cL_law 236 = .ok (.iload 7, 2) := by decide +kernel
theorem dL_law_238 : decode cL_law 238 = .ok (.i2l, 1) := by decide +kernel
theorem dL_law_239 : decode cL_law 239 = .ok (.lcmp, 1) := by decide +kernel
theorem dL_law_240 : decode cL_law 240 = .ok (.ifCond .eq 5, 3) := by decide +kernel
theorem dL_law_243 : decode cL_law 243 = .ok (.iconst 0, 1) := by decide +kernel
theorem dL_law_244 : decode cL_law 244 = .ok (.ireturn, 1) := by decide +kernel
theorem dL_law_245 : decode cL_law 245 = .ok (.goto 1257, 3) := by decide +kernel
theorem dL_law_248 : decode cL_law 248 = .ok (.aload_n 1, 1) := by decide +kernel
theorem dL_law_249 : decode cL_law 249 = .ok (.aload_n 0, 1) := by decide +kernel
theorem dL_law_250 : decode cL_law 250 = .ok (.iload 5, 2) := by decide +kernel
theorem dL_law_252 : decode cL_law 252 = .ok (.iconst 1, 1) := by decide +kernel
theorem dL_law_253 : decode cL_law 253 = .ok (.iadd, 1) := by decide +kernel
theorem dL_law_254 : decode cL_law 254 = .ok (.iaload, 1) := by decide +kernel
theorem dL_law_255 : decode cL_law 255 = .ok (.aload_n 0, 1) := by decide +kernel
theorem dL_law_256 : decode cL_law 256 = .ok (.iload 5, 2) := by decide +kernel
theorem dL_law_258 : decode cL_law 258 = .ok (.iconst 2, 1) := by decide +kernel
theorem dL_law_259 : decode cL_law 259 = .ok (.iadd, 1) := by decide +kernel
theorem dL_law_260 : decode cL_law 260 = .ok (.iaload, 1) := by decide +kernel
theorem dL_law_261 : decode cL_law 261 = .ok (.aload_n 3, 1) := by decide +kernel
theorem dL_law_262 : decode cL_law 262 = .ok (.invokestatic 100, 3) := by decide +kernel
theorem dL_law_265 : decode cL_law 265 = .ok (.istore 6, 2) := by decide +kernel
theorem dL_law_267 : decode cL_law 267 = .ok (.aload_n 2, 1) := by decide +kernel
theorem dL_law_268 : decode cL_law 268 = .ok (.aload_n 0, 1) := by decide +kernel
theorem dL_law_269 : decode cL_law 269 = .ok (.iload 5, 2) := by decide +kernel
theorem dL_law_271 : decode cL_law 271 = .ok (.iconst 1, 1) := by decide +kernel
theorem dL_law_272 : decode cL_law 272 = .ok (.iadd, 1) := by decide +kernel
theorem dL_law_273 : decode cL_law 273 = .ok (.iaload, 1) := by decide +kernel
theorem dL_law_274 : decode cL_law 274 = .ok (.aload_n 0, 1) := by decide +kernel
theorem dL_law_275 : decode cL_law 275 = .ok (.iload 5, 2) := by decide +kernel
theorem dL_law_277 : decode cL_law 277 = .ok (.iconst 2, 1) := by decide +kernel
theorem dL_law_278 : decode cL_law 278 = .ok (.iadd, 1) := by decide +kernel
theorem dL_law_279 : decode cL_law 279 = .ok (.iaload, 1) := by decide +kernel
theorem dL_law_280 : decode cL_law 280 = .ok (.invokevirtual 102, 3) := by decide +kernel
theorem dL_law_283 : decode cL_law 283 = .ok (.istore 7, 2) := by decide +kernel
theorem dL_law_285 : decode cL_law 285 = .ok (.aload_n 2, 1) := by decide +kernel
theorem dL_law_286 : decode cL_law 286 = .ok (.invokevirtual 97, 3) := by decide +kernel
theorem dL_law_289 : decode cL_law 289 = .ok (.iload 6, 2) := by decide +kernel
theorem dL_law_291 : decode cL_law 291 = .ok (.if_icmp .eq 5, 3) := by decide +kernel
theorem dL_law_294 : decode cL_law 294 = .ok (.iconst 0, 1) := by decide +kernel
theorem dL_law_295 : decode cL_law 295 = .ok (.ireturn, 1) := by decide +kernel
theorem dL_law_296 : decode cL_law 296 = .ok (.iload 6, 2) := by decide +kernel
theorem dL_law_298 : decode cL_law 298 = .ok (.ifCond .ne 15, 3) := by decide +kernel
theorem dL_law_301 : decode cL_law 301 = .ok (.aload_n 3, 1) := by decide +kernel
theorem dL_law_302 : decode cL_law 302 = .ok (.iconst 0, 1) := by decide +kernel
theorem dL_law_303 : decode cL_law 303 = .ok (.laload, 1) := by decide +kernel
theorem dL_law_304 : decode cL_law 304 = .ok (.iload 7, 2) := by decide +kernel
theorem dL_law_306 : decode cL_law 306 = .ok (.i2l, 1) := by decide +kernel
theorem dL_law_307 : decode cL_law 307 = .ok (.lcmp, 1) := by decide +kernel
theorem dL_law_308 : decode cL_law 308 = .ok (.ifCond .eq 5, 3) := by decide +kernel
theorem dL_law_311 : decode cL_law 311 = .ok (.iconst 0, 1) := by decide +kernel
theorem dL_law_312 : decode cL_law 312 = .ok (.ireturn, 1) := by decide +kernel
theorem dL_law_313 : decode cL_law 313 = .ok (.goto 1189, 3) := by decide +kernel
theorem dL_law_316 : decode cL_law 316 = .ok (.aload_n 1, 1) := by decide +kernel
theorem dL_law_317 : decode cL_law 317 = .ok (.aload_n 0, 1) := by decide +kernel
theorem dL_law_318 : decode cL_law 318 = .ok (.iload 5, 2) := by decide +kernel
theorem dL_law_320 : decode cL_law 320 = .ok (.iconst 1, 1) := by decide +kernel
theorem dL_law_321 : decode cL_law 321 = .ok (.iadd, 1) := by decide +kernel
theorem dL_law_322 : decode cL_law 322 = .ok (.iaload, 1) := by decide +kernel
theorem dL_law_323 : decode cL_law 323 = .ok (.aload_n 3, 1) := by decide +kernel
theorem dL_law_324 : decode cL_law 324 = .ok (.invokestatic 103, 3) := by decide +kernel
theorem dL_law_327 : decode cL_law 327 = .ok (.istore 6, 2) := by decide +kernel
theorem dL_law_329 : decode cL_law 329 = .ok (.aload_n 2, 1) := by decide +kernel
theorem dL_law_330 : decode cL_law 330 = .ok (.aload_n 0, 1) := by decide +kernel
theorem dL_law_331 : decode cL_law 331 = .ok (.iload 5, 2) := by decide +kernel
theorem dL_law_333 : decode cL_law 333 = .ok (.iconst 1, 1) := by decide +kernel
theorem dL_law_334 : decode cL_law 334 = .ok (.iadd, 1) := by decide +kernel
theorem dL_law_335 : decode cL_law 335 = .ok (.iaload, 1) := by decide +kernel
theorem dL_law_336 : decode cL_law 336 = .ok (.invokevirtual 106, 3) := by decide +kernel
theorem dL_law_339 : decode cL_law 339 = .ok (.istore 7, 2) := by decide +kernel
theorem dL_law_341 : decode cL_law 341 = .ok (.aload_n 2, 1) := by decide +kernel
theorem dL_law_342 : decode cL_law 342 = .ok (.invokevirtual 97, 3) := by decide +kernel
theorem dL_law_345 : decode cL_law 345 = .ok (.iload 6, 2) := by decide +kernel
theorem dL_law_347 : decode cL_law 347 = .ok (.if_icmp .eq 5, 3) := by decide +kernel
theorem dL_law_350 : decode cL_law 350 = .ok (.iconst 0, 1) := by decide +kernel
theorem dL_law_351 : decode cL_law 351 = .ok (.ireturn, 1) := by decide +kernel
theorem dL_law_352 : decode cL_law 352 = .ok (.iload 6, 2) := by decide +kernel
theorem dL_law_354 : decode cL_law 354 = .ok (.ifCond .ne 15, 3) := by decide +kernel
theorem dL_law_357 : decode cL_law 357 = .ok (.aload_n 3, 1) := by decide +kernel
theorem dL_law_358 : decode cL_law 358 = .ok (.iconst 0, 1) := by decide +kernel
theorem dL_law_359 : decode cL_law 359 = .ok (.laload, 1) := by decide +kernel
theorem dL_law_360 : decode cL_law 360 = .ok (.iload 7, 2) := by decide +kernel
theorem dL_law_362 : decode cL_law 362 = .ok (.i2l, 1) := by decide +kernel
theorem dL_law_363 : decode cL_law 363 = .ok (.lcmp, 1) := by decide +kernel
theorem dL_law_364 : decode cL_law 364 = .ok (.ifCond .eq 5, 3) := by decide +kernel
theorem dL_law_367 : decode cL_law 367 = .ok (.iconst 0, 1) := by decide +kernel
theorem dL_law_368 : decode cL_law 368 = .ok (.ireturn, 1) := by decide +kernel
theorem dL_law_369 : decode cL_law 369 = .ok (.goto 1133, 3) := by decide +kernel
theorem dL_law_372 : decode cL_law 372 = .ok (.aload_n 1, 1) := by decide +kernel
theorem dL_law_373 : decode cL_law 373 = .ok (.aload_n 0, 1) := by decide +kernel
theorem dL_law_374 : decode cL_law 374 = .ok (.iload 5, 2) := by decide +kernel
theorem dL_law_376 : decode cL_law 376 = .ok (.iconst 1, 1) := by decide +kernel
theorem dL_law_377 : decode cL_law 377 = .ok (.iadd, 1) := by decide +kernel
theorem dL_law_378 : decode cL_law 378 = .ok (.iaload, 1) := by decide +kernel
theorem dL_law_379 : decode cL_law 379 = .ok (.aload_n 3, 1) := by decide +kernel
theorem dL_law_380 : decode cL_law 380 = .ok (.invokestatic 107, 3) := by decide +kernel
theorem dL_law_383 : decode cL_law 383 = .ok (.istore 6, 2) := by decide +kernel
theorem dL_law_385 : decode cL_law 385 = .ok (.aload_n 2, 1) := by decide +kernel
theorem dL_law_386 : decode cL_law 386 = .ok (.aload_n 0, 1) := by decide +kernel
theorem dL_law_387 : decode cL_law 387 = .ok (.iload 5, 2) := by decide +kernel
theorem dL_law_389 : decode cL_law 389 = .ok (.iconst 1, 1) := by decide +kernel
theorem dL_law_390 : decode cL_law 390 = .ok (.iadd, 1) := by decide +kernel
theorem dL_law_391 : decode cL_law 391 = .ok (.iaload, 1) := by decide +kernel
theorem dL_law_392 : decode cL_law 392 = .ok (.invokevirtual 109, 3) := by decide +kernel
theorem dL_law_395 : decode cL_law 395 = .ok (.istore 7, 2) := by decide +kernel
theorem dL_law_397 : decode cL_law 397 = .ok (.aload_n 2, 1) := by decide +kernel
theorem dL_law_398 : decode cL_law 398 = .ok (.invokevirtual 97, 3) := by decide +kernel
theorem dL_law_401 : decode cL_law 401 = .ok (.iload 6, 2) := by decide +kernel
theorem dL_law_403 : decode cL_law 403 = .ok (.if_icmp .eq 5, 3) := by decide +kernel
theorem dL_law_406 : decode cL_law 406 = .ok (.iconst 0, 1) := by decide +kernel
theorem dL_law_407 : decode cL_law 407 = .ok (.ireturn, 1) := by decide +kernel
theorem dL_law_408 : decode cL_law 408 = .ok (.iload 6, 2) := by decide +kernel
theorem dL_law_410 : decode cL_law 410 = .ok (.ifCond .ne 15, 3) := by decide +kernel
theorem dL_law_413 : decode cL_law 413 = .ok (.aload_n 3, 1) := by decide +kernel
theorem dL_law_414 : decode cL_law 414 = .ok (.iconst 0, 1) := by decide +kernel
theorem dL_law_415 : decode cL_law 415 = .ok (.laload, 1) := by decide +kernel
theorem dL_law_416 : decode cL_law 416 = .ok (.iload 7, 2) := by decide +kernel
theorem dL_law_418 : decode cL_law 418 = .ok (.i2l, 1) := by decide +kernel
theorem dL_law_419 : decode cL_law 419 = .ok (.lcmp, 1) := by decide +kernel
theorem dL_law_420 : decode cL_law 420 = .ok (.ifCond .eq 5, 3) := by decide +kernel
theorem dL_law_423 : decode cL_law 423 = .ok (.iconst 0, 1) := by decide +kernel
theorem dL_law_424 : decode cL_law 424 = .ok (.ireturn, 1) := by decide +kernel
theorem dL_law_425 : decode cL_law 425 = .ok (.goto 1077, 3) := by decide +kernel
theorem dL_law_428 : decode cL_law 428 = .ok (.aload_n 1, 1) := by decide +kernel
theorem dL_law_429 : decode cL_law 429 = .ok (.aload_n 0, 1) := by decide +kernel
theorem dL_law_430 : decode cL_law 430 = .ok (.iload 5, 2) := by decide +kernel
theorem dL_law_432 : decode cL_law 432 = .ok (.iconst 1, 1) := by decide +kernel
theorem dL_law_433 : decode cL_law 433 = .ok (.iadd, 1) := by decide +kernel
theorem dL_law_434 : decode cL_law 434 = .ok (.iaload, 1) := by decide +kernel
theorem dL_law_435 : decode cL_law 435 = .ok (.aload_n 0, 1) := by decide +kernel
theorem dL_law_436 : decode cL_law 436 = .ok (.iload 5, 2) := by decide +kernel
theorem dL_law_438 : decode cL_law 438 = .ok (.iconst 2, 1) := by decide +kernel
theorem dL_law_439 : decode cL_law 439 = .ok (.iadd, 1) := by decide +kernel
theorem dL_law_440 : decode cL_law 440 = .ok (.iaload, 1) := by decide +kernel
theorem dL_law_441 : decode cL_law 441 = .ok (.aload_n 3, 1) := by decide +kernel
theorem dL_law_442 : decode cL_law 442 = .ok (.invokestatic 110, 3) := by decide +kernel
theorem dL_law_445 : decode cL_law 445 = .ok (.istore 6, 2) := by decide +kernel
theorem dL_law_447 : decode cL_law 447 = .ok (.aload_n 2, 1) := by decide +kernel
theorem dL_law_448 : decode cL_law 448 = .ok (.aload_n 0, 1) := by decide +kernel
theorem dL_law_449 : decode cL_law 449 = .ok (.iload 5, 2) := by decide +kernel
theorem dL_law_451 : decode cL_law 451 = .ok (.iconst 1, 1) := by decide +kernel
theorem dL_law_452 : decode cL_law 452 = .ok (.iadd, 1) := by decide +kernel
theorem dL_law_453 : decode cL_law 453 = .ok (.iaload, 1) := by decide +kernel
theorem dL_law_454 : decode cL_law 454 = .ok (.aload_n 0, 1) := by decide +kernel
theorem dL_law_455 : decode cL_law 455 = .ok (.iload 5, 2) := by decide +kernel
theorem dL_law_457 : decode cL_law 457 = .ok (.iconst 2, 1) := by decide +kernel
theorem dL_law_458 : decode cL_law 458 = .ok (.iadd, 1) := by decide +kernel
theorem dL_law_459 : decode cL_law 459 = .ok (.iaload, 1) := by decide +kernel
theorem dL_law_460 : decode cL_law 460 = .ok (.invokevirtual 112, 3) := by decide +kernel
theorem dL_law_463 : decode cL_law 463 = .ok (.istore 7, 2) := by decide +kernel
theorem dL_law_465 : decode cL_law 465 = .ok (.aload_n 2, 1) := by decide +kernel
theorem dL_law_466 : decode cL_law 466 = .ok (.invokevirtual 97, 3) := by decide +kernel
theorem dL_law_469 : decode cL_law 469 = .ok (.iload 6, 2) := by decide +kernel
theorem dL_law_471 : decode cL_law 471 = .ok (.if_icmp .eq 5, 3) := by decide +kernel
theorem dL_law_474 : decode cL_law 474 = .ok (.iconst 0, 1) := by decide +kernel
theorem dL_law_475 : decode cL_law 475 = .ok (.ireturn, 1) := by decide +kernel
theorem dL_law_476 : decode cL_law 476 = .ok (.iload 6, 2) := by decide +kernel
theorem dL_law_478 : decode cL_law 478 = .ok (.ifCond .ne 15, 3) := by decide +kernel
theorem dL_law_481 : decode cL_law 481 = .ok (.aload_n 3, 1) := by decide +kernel
theorem dL_law_482 : decode cL_law 482 = .ok (.iconst 0, 1) := by decide +kernel
theorem dL_law_483 : decode cL_law 483 = .ok (.laload, 1) := by decide +kernel
theorem dL_law_484 : decode cL_law 484 = .ok (.iload 7, 2) := by decide +kernel
theorem dL_law_486 : decode cL_law 486 = .ok (.i2l, 1) := by decide +kernel
theorem dL_law_487 : decode cL_law 487 = .ok (.lcmp, 1) := by decide +kernel
theorem dL_law_488 : decode cL_law 488 = .ok (.ifCond .eq 5, 3) := by decide +kernel
theorem dL_law_491 : decode cL_law 491 = .ok (.iconst 0, 1) := by decide +kernel
theorem dL_law_492 : decode cL_law 492 = .ok (.ireturn, 1) := by decide +kernel
theorem dL_law_493 : decode cL_law 493 = .ok (.goto 1009, 3) := by decide +kernel
theorem dL_law_496 : decode cL_law 496 = .ok (.aload_n 1, 1) := by decide +kernel
theorem dL_law_497 : decode cL_law 497 = .ok (.aload_n 0, 1) := by decide +kernel
theorem dL_law_498 : decode cL_law 498 = .ok (.iload 5, 2) := by decide +kernel
theorem dL_law_500 : decode cL_law 500 = .ok (.iconst 1, 1) := by decide +kernel
theorem dL_law_501 : decode cL_law 501 = .ok (.iadd, 1) := by decide +kernel
theorem dL_law_502 : decode cL_law 502 = .ok (.iaload, 1) := by decide +kernel
theorem dL_law_503 : decode cL_law 503 = .ok (.aload_n 3, 1) := by decide +kernel
theorem dL_law_504 : decode cL_law 504 = .ok (.invokestatic 113, 3) := by decide +kernel
theorem dL_law_507 : decode cL_law 507 = .ok (.istore 6, 2) := by decide +kernel
theorem dL_law_509 : decode cL_law 509 = .ok (.aload_n 2, 1) := by decide +kernel
theorem dL_law_510 : decode cL_law 510 = .ok (.aload_n 0, 1) := by decide +kernel
theorem dL_law_511 : decode cL_law 511 = .ok (.iload 5, 2) := by decide +kernel
theorem dL_law_513 : decode cL_law 513 = .ok (.iconst 1, 1) := by decide +kernel
theorem dL_law_514 : decode cL_law 514 = .ok (.iadd, 1) := by decide +kernel
theorem dL_law_515 : decode cL_law 515 = .ok (.iaload, 1) := by decide +kernel
theorem dL_law_516 : decode cL_law 516 = .ok (.invokevirtual 115, 3) := by decide +kernel
theorem dL_law_519 : decode cL_law 519 = .ok (.istore 7, 2) := by decide +kernel
theorem dL_law_521 : decode cL_law 521 = .ok (.aload_n 2, 1) := by decide +kernel
theorem dL_law_522 : decode cL_law 522 = .ok (.invokevirtual 97, 3) := by decide +kernel
theorem dL_law_525 : decode cL_law 525 = .ok (.iload 6, 2) := by decide +kernel
theorem dL_law_527 : decode cL_law 527 = .ok (.if_icmp .eq 5, 3) := by decide +kernel
theorem dL_law_530 : decode cL_law 530 = .ok (.iconst 0, 1) := by decide +kernel
theorem dL_law_531 : decode cL_law 531 = .ok (.ireturn, 1) := by decide +kernel
theorem dL_law_532 : decode cL_law 532 = .ok (.iload 6, 2) := by decide +kernel
theorem dL_law_534 : decode cL_law 534 = .ok (.ifCond .ne 15, 3) := by decide +kernel
theorem dL_law_537 : decode cL_law 537 = .ok (.aload_n 3, 1) := by decide +kernel
theorem dL_law_538 : decode cL_law 538 = .ok (.iconst 0, 1) := by decide +kernel
theorem dL_law_539 : decode cL_law 539 = .ok (.laload, 1) := by decide +kernel
theorem dL_law_540 : decode cL_law 540 = .ok (.iload 7, 2) := by decide +kernel
theorem dL_law_542 : decode cL_law 542 = .ok (.i2l, 1) := by decide +kernel
theorem dL_law_543 : decode cL_law 543 = .ok (.lcmp, 1) := by decide +kernel
theorem dL_law_544 : decode cL_law 544 = .ok (.ifCond .eq 5, 3) := by decide +kernel
theorem dL_law_547 : decode cL_law 547 = .ok (.iconst 0, 1) := by decide +kernel
theorem dL_law_548 : decode cL_law 548 = .ok (.ireturn, 1) := by decide +kernel
theorem dL_law_549 : decode cL_law 549 = .ok (.goto 953, 3) := by decide +kernel
theorem dL_law_552 : decode cL_law 552 = .ok (.aload_n 1, 1) := by decide +kernel
theorem dL_law_553 : decode cL_law 553 = .ok (.invokevirtual 116, 3) := by decide +kernel
theorem dL_law_556 : decode cL_law 556 = .ok (.aload_n 2, 1) := by decide +kernel
theorem dL_law_557 : decode cL_law 557 = .ok (.invokevirtual 119, 3) := by decide +kernel
theorem dL_law_560 : decode cL_law 560 = .ok (.if_icmp .eq 942, 3) := by decide +kernel
theorem dL_law_563 : decode cL_law 563 = .ok (.iconst 0, 1) := by decide +kernel
theorem dL_law_564 : decode cL_law 564 = .ok (.ireturn, 1) := by decide +kernel
theorem dL_law_565 : decode cL_law 565 = .ok (.aload_n 1, 1) := by decide +kernel
theorem dL_law_566 : decode cL_law 566 = .ok (.aload_n 0, 1) := by decide +kernel
theorem dL_law_567 : decode cL_law 567 = .ok (.iload 5, 2) := by decide +kernel
theorem dL_law_569 : decode cL_law 569 = .ok (.iconst 1, 1) := by decide +kernel
theorem dL_law_570 : decode cL_law 570 = .ok (.iadd, 1) := by decide +kernel
theorem dL_law_571 : decode cL_law 571 = .ok (.iaload, 1) := by decide +kernel
theorem dL_law_572 : decode cL_law 572 = .ok (.aload_n 3, 1) := by decide +kernel
theorem dL_law_573 : decode cL_law 573 = .ok (.invokestatic 120, 3) := by decide +kernel
theorem dL_law_576 : decode cL_law 576 = .ok (.istore 6, 2) := by decide +kernel
theorem dL_law_578 : decode cL_law 578 = .ok (.aload_n 2, 1) := by decide +kernel
theorem dL_law_579 : decode cL_law 579 = .ok (.aload_n 0, 1) := by decide +kernel
theorem dL_law_580 : decode cL_law 580 = .ok (.iload 5, 2) := by decide +kernel
theorem dL_law_582 : decode cL_law 582 = .ok (.iconst 1, 1) := by decide +kernel
theorem dL_law_583 : decode cL_law 583 = .ok (.iadd, 1) := by decide +kernel
theorem dL_law_584 : decode cL_law 584 = .ok (.iaload, 1) := by decide +kernel
theorem dL_law_585 : decode cL_law 585 = .ok (.invokevirtual 122, 3) := by decide +kernel
theorem dL_law_588 : decode cL_law 588 = .ok (.istore 7, 2) := by decide +kernel
theorem dL_law_590 : decode cL_law 590 = .ok (.aload_n 2, 1) := by decide +kernel
theorem dL_law_591 : decode cL_law 591 = .ok (.invokevirtual 97, 3) := by decide +kernel
theorem dL_law_594 : decode cL_law 594 = .ok (.iload 6, 2) := by decide +kernel
theorem dL_law_596 : decode cL_law 596 = .ok (.if_icmp .eq 5, 3) := by decide +kernel
theorem dL_law_599 : decode cL_law 599 = .ok (.iconst 0, 1) := by decide +kernel
theorem dL_law_600 : decode cL_law 600 = .ok (.ireturn, 1) := by decide +kernel
theorem dL_law_601 : decode cL_law 601 = .ok (.iload 6, 2) := by decide +kernel
theorem dL_law_603 : decode cL_law 603 = .ok (.ifCond .ne 15, 3) := by decide +kernel
theorem dL_law_606 : decode cL_law 606 = .ok (.aload_n 3, 1) := by decide +kernel
theorem dL_law_607 : decode cL_law 607 = .ok (.iconst 0, 1) := by decide +kernel
theorem dL_law_608 : decode cL_law 608 = .ok (.laload, 1) := by decide +kernel
theorem dL_law_609 : decode cL_law 609 = .ok (.iload 7, 2) := by decide +kernel
theorem dL_law_611 : decode cL_law 611 = .ok (.i2l, 1) := by decide +kernel
theorem dL_law_612 : decode cL_law 612 = .ok (.lcmp, 1) := by decide +kernel
theorem dL_law_613 : decode cL_law 613 = .ok (.ifCond .eq 5, 3) := by decide +kernel
theorem dL_law_616 : decode cL_law 616 = .ok (.iconst 0, 1) := by decide +kernel
theorem dL_law_617 : decode cL_law 617 = .ok (.ireturn, 1) := by decide +kernel
theorem dL_law_618 : decode cL_law 618 = .ok (.goto 884, 3) := by decide +kernel
theorem dL_law_621 : decode cL_law 621 = .ok (.aload_n 1, 1) := by decide +kernel
theorem dL_law_622 : decode cL_law 622 = .ok (.invokevirtual 123, 3) := by decide +kernel
theorem dL_law_625 : decode cL_law 625 = .ok (.aload_n 2, 1) := by decide +kernel
theorem dL_law_626 : decode cL_law 626 = .ok (.invokevirtual 126, 3) := by decide +kernel
theorem dL_law_629 : decode cL_law 629 = .ok (.if_icmp .eq 873, 3) := by decide +kernel
theorem dL_law_632 : decode cL_law 632 = .ok (.iconst 0, 1) := by decide +kernel
theorem dL_law_633 : decode cL_law 633 = .ok (.ireturn, 1) := by decide +kernel
theorem dL_law_634 : decode cL_law 634 = .ok (.aload_n 1, 1) := by decide +kernel
theorem dL_law_635 : decode cL_law 635 = .ok (.invokevirtual 127, 3) := by decide +kernel
theorem dL_law_638 : decode cL_law 638 = .ok (.aload_n 2, 1) := by decide +kernel
theorem dL_law_639 : decode cL_law 639 = .ok (.invokevirtual 130, 3) := by decide +kernel
theorem dL_law_642 : decode cL_law 642 = .ok (.if_icmp .eq 860, 3) := by decide +kernel
theorem dL_law_645 : decode cL_law 645 = .ok (.iconst 0, 1) := by decide +kernel
theorem dL_law_646 : decode cL_law 646 = .ok (.ireturn, 1) := by decide +kernel
theorem dL_law_647 : decode cL_law 647 = .ok (.aload_n 1, 1) := by decide +kernel
theorem dL_law_648 : decode cL_law 648 = .ok (.invokevirtual 131, 3) := by decide +kernel
theorem dL_law_651 : decode cL_law 651 = .ok (.aload_n 2, 1) := by decide +kernel
theorem dL_law_652 : decode cL_law 652 = .ok (.invokevirtual 134, 3) := by decide +kernel
theorem dL_law_655 : decode cL_law 655 = .ok (.if_icmp .eq 847, 3) := by decide +kernel
theorem dL_law_658 : decode cL_law 658 = .ok (.iconst 0, 1) := by decide +kernel
theorem dL_law_659 : decode cL_law 659 = .ok (.ireturn, 1) := by decide +kernel
theorem dL_law_660 : decode cL_law 660 = .ok (.aload_n 1, 1) := by decide +kernel
theorem dL_law_661 : decode cL_law 661 = .ok (.aload_n 0, 1) := by decide +kernel
theorem dL_law_662 : decode cL_law 662 = .ok (.iload 5, 2) := by decide +kernel
theorem dL_law_664 : decode cL_law 664 = .ok (.iconst 1, 1) := by decide +kernel
theorem dL_law_665 : decode cL_law 665 = .ok (.iadd, 1) := by decide +kernel
theorem dL_law_666 : decode cL_law 666 = .ok (.iaload, 1) := by decide +kernel
theorem dL_law_667 : decode cL_law 667 = .ok (.aload_n 3, 1) := by decide +kernel
theorem dL_law_668 : decode cL_law 668 = .ok (.invokestatic 135, 3) := by decide +kernel
theorem dL_law_671 : decode cL_law 671 = .ok (.istore 6, 2) := by decide +kernel
theorem dL_law_673 : decode cL_law 673 = .ok (.aload_n 2, 1) := by decide +kernel
theorem dL_law_674 : decode cL_law 674 = .ok (.aload_n 0, 1) := by decide +kernel
theorem dL_law_675 : decode cL_law 675 = .ok (.iload 5, 2) := by decide +kernel
theorem dL_law_677 : decode cL_law 677 = .ok (.iconst 1, 1) := by decide +kernel
theorem dL_law_678 : decode cL_law 678 = .ok (.iadd, 1) := by decide +kernel
theorem dL_law_679 : decode cL_law 679 = .ok (.iaload, 1) := by decide +kernel
theorem dL_law_680 : decode cL_law 680 = .ok (.invokevirtual 137, 3) := by decide +kernel
theorem dL_law_683 : decode cL_law 683 = .ok (.istore 7, 2) := by decide +kernel
theorem dL_law_685 : decode cL_law 685 = .ok (.aload_n 2, 1) := by decide +kernel
theorem dL_law_686 : decode cL_law 686 = .ok (.invokevirtual 97, 3) := by decide +kernel
theorem dL_law_689 : decode cL_law 689 = .ok (.iload 6, 2) := by decide +kernel
theorem dL_law_691 : decode cL_law 691 = .ok (.if_icmp .eq 5, 3) := by decide +kernel
theorem dL_law_694 : decode cL_law 694 = .ok (.iconst 0, 1) := by decide +kernel
theorem dL_law_695 : decode cL_law 695 = .ok (.ireturn, 1) := by decide +kernel
theorem dL_law_696 : decode cL_law 696 = .ok (.iload 6, 2) := by decide +kernel
theorem dL_law_698 : decode cL_law 698 = .ok (.ifCond .ne 15, 3) := by decide +kernel
theorem dL_law_701 : decode cL_law 701 = .ok (.aload_n 3, 1) := by decide +kernel
theorem dL_law_702 : decode cL_law 702 = .ok (.iconst 0, 1) := by decide +kernel
theorem dL_law_703 : decode cL_law 703 = .ok (.laload, 1) := by decide +kernel
theorem dL_law_704 : decode cL_law 704 = .ok (.iload 7, 2) := by decide +kernel
theorem dL_law_706 : decode cL_law 706 = .ok (.i2l, 1) := by decide +kernel
theorem dL_law_707 : decode cL_law 707 = .ok (.lcmp, 1) := by decide +kernel
theorem dL_law_708 : decode cL_law 708 = .ok (.ifCond .eq 5, 3) := by decide +kernel
theorem dL_law_711 : decode cL_law 711 = .ok (.iconst 0, 1) := by decide +kernel
theorem dL_law_712 : decode cL_law 712 = .ok (.ireturn, 1) := by decide +kernel
theorem dL_law_713 : decode cL_law 713 = .ok (.goto 789, 3) := by decide +kernel
theorem dL_law_716 : decode cL_law 716 = .ok (.aload_n 1, 1) := by decide +kernel
theorem dL_law_717 : decode cL_law 717 = .ok (.aload_n 3, 1) := by decide +kernel
theorem dL_law_718 : decode cL_law 718 = .ok (.invokestatic 138, 3) := by decide +kernel
theorem dL_law_721 : decode cL_law 721 = .ok (.istore 6, 2) := by decide +kernel
theorem dL_law_723 : decode cL_law 723 = .ok (.aload_n 2, 1) := by decide +kernel
theorem dL_law_724 : decode cL_law 724 = .ok (.invokevirtual 141, 3) := by decide +kernel
theorem dL_law_727 : decode cL_law 727 = .ok (.istore 7, 2) := by decide +kernel
theorem dL_law_729 : decode cL_law 729 = .ok (.aload_n 2, 1) := by decide +kernel
theorem dL_law_730 : decode cL_law 730 = .ok (.invokevirtual 97, 3) := by decide +kernel
theorem dL_law_733 : decode cL_law 733 = .ok (.iload 6, 2) := by decide +kernel
theorem dL_law_735 : decode cL_law 735 = .ok (.if_icmp .eq 5, 3) := by decide +kernel
theorem dL_law_738 : decode cL_law 738 = .ok (.iconst 0, 1) := by decide +kernel
theorem dL_law_739 : decode cL_law 739 = .ok (.ireturn, 1) := by decide +kernel
theorem dL_law_740 : decode cL_law 740 = .ok (.iload 6, 2) := by decide +kernel
theorem dL_law_742 : decode cL_law 742 = .ok (.ifCond .ne 15, 3) := by decide +kernel
theorem dL_law_745 : decode cL_law 745 = .ok (.aload_n 3, 1) := by decide +kernel
theorem dL_law_746 : decode cL_law 746 = .ok (.iconst 0, 1) := by decide +kernel
theorem dL_law_747 : decode cL_law 747 = .ok (.laload, 1) := by decide +kernel
theorem dL_law_748 : decode cL_law 748 = .ok (.iload 7, 2) := by decide +kernel
theorem dL_law_750 : decode cL_law 750 = .ok (.i2l, 1) := by decide +kernel
theorem dL_law_751 : decode cL_law 751 = .ok (.lcmp, 1) := by decide +kernel
theorem dL_law_752 : decode cL_law 752 = .ok (.ifCond .eq 5, 3) := by decide +kernel
theorem dL_law_755 : decode cL_law 755 = .ok (.iconst 0, 1) := by decide +kernel
theorem dL_law_756 : decode cL_law 756 = .ok (.ireturn, 1) := by decide +kernel
theorem dL_law_757 : decode cL_law 757 = .ok (.goto 745, 3) := by decide +kernel
theorem dL_law_760 : decode cL_law 760 = .ok (.aload_n 1, 1) := by decide +kernel
theorem dL_law_761 : decode cL_law 761 = .ok (.invokevirtual 142, 3) := by decide +kernel
theorem dL_law_764 : decode cL_law 764 = .ok (.aload_n 2, 1) := by decide +kernel
theorem dL_law_765 : decode cL_law 765 = .ok (.invokevirtual 145, 3) := by decide +kernel
theorem dL_law_768 : decode cL_law 768 = .ok (.if_icmp .eq 734, 3) := by decide +kernel
theorem dL_law_771 : decode cL_law 771 = .ok (.iconst 0, 1) := by decide +kernel
theorem dL_law_772 : decode cL_law 772 = .ok (.ireturn, 1) := by decide +kernel
theorem dL_law_773 : decode cL_law 773 = .ok (.aload_n 1, 1) := by decide +kernel
theorem dL_law_774 : decode cL_law 774 = .ok (.aload_n 0, 1) := by decide +kernel
theorem dL_law_775 : decode cL_law 775 = .ok (.iload 5, 2) := by decide +kernel
theorem dL_law_777 : decode cL_law 777 = .ok (.iconst 1, 1) := by decide +kernel
theorem dL_law_778 : decode cL_law 778 = .ok (.iadd, 1) := by decide +kernel
theorem dL_law_779 : decode cL_law 779 = .ok (.iaload, 1) := by decide +kernel
theorem dL_law_780 : decode cL_law 780 = .ok (.aload_n 3, 1) := by decide +kernel
theorem dL_law_781 : decode cL_law 781 = .ok (.invokestatic 146, 3) := by decide +kernel
theorem dL_law_784 : decode cL_law 784 = .ok (.istore 6, 2) := by decide +kernel
theorem dL_law_786 : decode cL_law 786 = .ok (.aload_n 2, 1) := by decide +kernel
theorem dL_law_787 : decode cL_law 787 = .ok (.aload_n 0, 1) := by decide +kernel
theorem dL_law_788 : decode cL_law 788 = .ok (.iload 5, 2) := by decide +kernel
theorem dL_law_790 : decode cL_law 790 = .ok (.iconst 1, 1) := by decide +kernel
theorem dL_law_791 : decode cL_law 791 = .ok (.iadd, 1) := by decide +kernel
theorem dL_law_792 : decode cL_law 792 = .ok (.iaload, 1) := by decide +kernel
theorem dL_law_793 : decode cL_law 793 = .ok (.invokevirtual 148, 3) := by decide +kernel
theorem dL_law_796 : decode cL_law 796 = .ok (.istore 7, 2) := by decide +kernel
theorem dL_law_798 : decode cL_law 798 = .ok (.aload_n 2, 1) := by decide +kernel
theorem dL_law_799 : decode cL_law 799 = .ok (.invokevirtual 97, 3) := by decide +kernel
theorem dL_law_802 : decode cL_law 802 = .ok (.iload 6, 2) := by decide +kernel
theorem dL_law_804 : decode cL_law 804 = .ok (.if_icmp .eq 5, 3) := by decide +kernel
theorem dL_law_807 : decode cL_law 807 = .ok (.iconst 0, 1) := by decide +kernel
theorem dL_law_808 : decode cL_law 808 = .ok (.ireturn, 1) := by decide +kernel
theorem dL_law_809 : decode cL_law 809 = .ok (.iload 6, 2) := by decide +kernel
theorem dL_law_811 : decode cL_law 811 = .ok (.ifCond .ne 15, 3) := by decide +kernel
theorem dL_law_814 : decode cL_law 814 = .ok (.aload_n 3, 1) := by decide +kernel
theorem dL_law_815 : decode cL_law 815 = .ok (.iconst 0, 1) := by decide +kernel
theorem dL_law_816 : decode cL_law 816 = .ok (.laload, 1) := by decide +kernel
theorem dL_law_817 : decode cL_law 817 = .ok (.iload 7, 2) := by decide +kernel
theorem dL_law_819 : decode cL_law 819 = .ok (.i2l, 1) := by decide +kernel
theorem dL_law_820 : decode cL_law 820 = .ok (.lcmp, 1) := by decide +kernel
theorem dL_law_821 : decode cL_law 821 = .ok (.ifCond .eq 5, 3) := by decide +kernel
theorem dL_law_824 : decode cL_law 824 = .ok (.iconst 0, 1) := by decide +kernel
theorem dL_law_825 : decode cL_law 825 = .ok (.ireturn, 1) := by decide +kernel
theorem dL_law_826 : decode cL_law 826 = .ok (.goto 676, 3) := by decide +kernel
theorem dL_law_829 : decode cL_law 829 = .ok (.aload_n 1, 1) := by decide +kernel
theorem dL_law_830 : decode cL_law 830 = .ok (.aload_n 0, 1) := by decide +kernel
theorem dL_law_831 : decode cL_law 831 = .ok (.iload 5, 2) := by decide +kernel
theorem dL_law_833 : decode cL_law 833 = .ok (.iconst 1, 1) := by decide +kernel
theorem dL_law_834 : decode cL_law 834 = .ok (.iadd, 1) := by decide +kernel
theorem dL_law_835 : decode cL_law 835 = .ok (.iaload, 1) := by decide +kernel
theorem dL_law_836 : decode cL_law 836 = .ok (.aload_n 3, 1) := by decide +kernel
theorem dL_law_837 : decode cL_law 837 = .ok (.invokestatic 149, 3) := by decide +kernel
theorem dL_law_840 : decode cL_law 840 = .ok (.istore 6, 2) := by decide +kernel
theorem dL_law_842 : decode cL_law 842 = .ok (.aload_n 2, 1) := by decide +kernel
theorem dL_law_843 : decode cL_law 843 = .ok (.aload_n 0, 1) := by decide +kernel
theorem dL_law_844 : decode cL_law 844 = .ok (.iload 5, 2) := by decide +kernel
theorem dL_law_846 : decode cL_law 846 = .ok (.iconst 1, 1) := by decide +kernel
theorem dL_law_847 : decode cL_law 847 = .ok (.iadd, 1) := by decide +kernel
theorem dL_law_848 : decode cL_law 848 = .ok (.iaload, 1) := by decide +kernel
theorem dL_law_849 : decode cL_law 849 = .ok (.invokevirtual 151, 3) := by decide +kernel
theorem dL_law_852 : decode cL_law 852 = .ok (.istore 7, 2) := by decide +kernel
theorem dL_law_854 : decode cL_law 854 = .ok (.aload_n 2, 1) := by decide +kernel
theorem dL_law_855 : decode cL_law 855 = .ok (.invokevirtual 97, 3) := by decide +kernel
theorem dL_law_858 : decode cL_law 858 = .ok (.iload 6, 2) := by decide +kernel
theorem dL_law_860 : decode cL_law 860 = .ok (.if_icmp .eq 5, 3) := by decide +kernel
theorem dL_law_863 : decode cL_law 863 = .ok (.iconst 0, 1) := by decide +kernel
theorem dL_law_864 : decode cL_law 864 = .ok (.ireturn, 1) := by decide +kernel
theorem dL_law_865 : decode cL_law 865 = .ok (.iload 6, 2) := by decide +kernel
theorem dL_law_867 : decode cL_law 867 = .ok (.ifCond .ne 15, 3) := by decide +kernel
theorem dL_law_870 : decode cL_law 870 = .ok (.aload_n 3, 1) := by decide +kernel
theorem dL_law_871 : decode cL_law 871 = .ok (.iconst 0, 1) := by decide +kernel
theorem dL_law_872 : decode cL_law 872 = .ok (.laload, 1) := by decide +kernel
theorem dL_law_873 : decode cL_law 873 = .ok (.iload 7, 2) := by decide +kernel
theorem dL_law_875 : decode cL_law 875 = .ok (.i2l, 1) := by decide +kernel
theorem dL_law_876 : decode cL_law 876 = .ok (.lcmp, 1) := by decide +kernel
theorem dL_law_877 : decode cL_law 877 = .ok (.ifCond .eq 5, 3) := by decide +kernel
theorem dL_law_880 : decode cL_law 880 = .ok (.iconst 0, 1) := by decide +kernel
theorem dL_law_881 : decode cL_law 881 = .ok (.ireturn, 1) := by decide +kernel
theorem dL_law_882 : decode cL_law 882 = .ok (.goto 620, 3) := by decide +kernel
theorem dL_law_885 : decode cL_law 885 = .ok (.aload_n 1, 1) := by decide +kernel
theorem dL_law_886 : decode cL_law 886 = .ok (.aload_n 0, 1) := by decide +kernel
theorem dL_law_887 : decode cL_law 887 = .ok (.iload 5, 2) := by decide +kernel
theorem dL_law_889 : decode cL_law 889 = .ok (.iconst 1, 1) := by decide +kernel
theorem dL_law_890 : decode cL_law 890 = .ok (.iadd, 1) := by decide +kernel
theorem dL_law_891 : decode cL_law 891 = .ok (.iaload, 1) := by decide +kernel
theorem dL_law_892 : decode cL_law 892 = .ok (.aload_n 3, 1) := by decide +kernel
theorem dL_law_893 : decode cL_law 893 = .ok (.invokestatic 152, 3) := by decide +kernel
theorem dL_law_896 : decode cL_law 896 = .ok (.istore 6, 2) := by decide +kernel
theorem dL_law_898 : decode cL_law 898 = .ok (.aload_n 2, 1) := by decide +kernel
theorem dL_law_899 : decode cL_law 899 = .ok (.aload_n 0, 1) := by decide +kernel
theorem dL_law_900 : decode cL_law 900 = .ok (.iload 5, 2) := by decide +kernel
theorem dL_law_902 : decode cL_law 902 = .ok (.iconst 1, 1) := by decide +kernel
theorem dL_law_903 : decode cL_law 903 = .ok (.iadd, 1) := by decide +kernel
theorem dL_law_904 : decode cL_law 904 = .ok (.iaload, 1) := by decide +kernel
theorem dL_law_905 : decode cL_law 905 = .ok (.invokevirtual 154, 3) := by decide +kernel
theorem dL_law_908 : decode cL_law 908 = .ok (.istore 7, 2) := by decide +kernel
theorem dL_law_910 : decode cL_law 910 = .ok (.aload_n 2, 1) := by decide +kernel
theorem dL_law_911 : decode cL_law 911 = .ok (.invokevirtual 97, 3) := by decide +kernel
theorem dL_law_914 : decode cL_law 914 = .ok (.iload 6, 2) := by decide +kernel
theorem dL_law_916 : decode cL_law 916 = .ok (.if_icmp .eq 5, 3) := by decide +kernel
theorem dL_law_919 : decode cL_law 919 = .ok (.iconst 0, 1) := by decide +kernel
theorem dL_law_920 : decode cL_law 920 = .ok (.ireturn, 1) := by decide +kernel
theorem dL_law_921 : decode cL_law 921 = .ok (.iload 6, 2) := by decide +kernel
theorem dL_law_923 : decode cL_law 923 = .ok (.ifCond .ne 15, 3) := by decide +kernel
theorem dL_law_926 : decode cL_law 926 = .ok (.aload_n 3, 1) := by decide +kernel
theorem dL_law_927 : decode cL_law 927 = .ok (.iconst 0, 1) := by decide +kernel
theorem dL_law_928 : decode cL_law 928 = .ok (.laload, 1) := by decide +kernel
theorem dL_law_929 : decode cL_law 929 = .ok (.iload 7, 2) := by decide +kernel
theorem dL_law_931 : decode cL_law 931 = .ok (.i2l, 1) := by decide +kernel
theorem dL_law_932 : decode cL_law 932 = .ok (.lcmp, 1) := by decide +kernel
theorem dL_law_933 : decode cL_law 933 = .ok (.ifCond .eq 5, 3) := by decide +kernel
theorem dL_law_936 : decode cL_law 936 = .ok (.iconst 0, 1) := by decide +kernel
theorem dL_law_937 : decode cL_law 937 = .ok (.ireturn, 1) := by decide +kernel
theorem dL_law_938 : decode cL_law 938 = .ok (.goto 564, 3) := by decide +kernel
theorem dL_law_941 : decode cL_law 941 = .ok (.aload_n 1, 1) := by decide +kernel
theorem dL_law_942 : decode cL_law 942 = .ok (.aload_n 0, 1) := by decide +kernel
theorem dL_law_943 : decode cL_law 943 = .ok (.iload 5, 2) := by decide +kernel
theorem dL_law_945 : decode cL_law 945 = .ok (.iconst 1, 1) := by decide +kernel
theorem dL_law_946 : decode cL_law 946 = .ok (.iadd, 1) := by decide +kernel
theorem dL_law_947 : decode cL_law 947 = .ok (.iaload, 1) := by decide +kernel
theorem dL_law_948 : decode cL_law 948 = .ok (.aload_n 3, 1) := by decide +kernel
theorem dL_law_949 : decode cL_law 949 = .ok (.invokestatic 155, 3) := by decide +kernel
theorem dL_law_952 : decode cL_law 952 = .ok (.istore 6, 2) := by decide +kernel
theorem dL_law_954 : decode cL_law 954 = .ok (.aload_n 2, 1) := by decide +kernel
theorem dL_law_955 : decode cL_law 955 = .ok (.aload_n 0, 1) := by decide +kernel
theorem dL_law_956 : decode cL_law 956 = .ok (.iload 5, 2) := by decide +kernel
theorem dL_law_958 : decode cL_law 958 = .ok (.iconst 1, 1) := by decide +kernel
theorem dL_law_959 : decode cL_law 959 = .ok (.iadd, 1) := by decide +kernel
theorem dL_law_960 : decode cL_law 960 = .ok (.iaload, 1) := by decide +kernel
theorem dL_law_961 : decode cL_law 961 = .ok (.invokevirtual 157, 3) := by decide +kernel
theorem dL_law_964 : decode cL_law 964 = .ok (.istore 7, 2) := by decide +kernel
theorem dL_law_966 : decode cL_law 966 = .ok (.aload_n 2, 1) := by decide +kernel
theorem dL_law_967 : decode cL_law 967 = .ok (.invokevirtual 97, 3) := by decide +kernel
theorem dL_law_970 : decode cL_law 970 = .ok (.iload 6, 2) := by decide +kernel
theorem dL_law_972 : decode cL_law 972 = .ok (.if_icmp .eq 5, 3) := by decide +kernel
theorem dL_law_975 : decode cL_law 975 = .ok (.iconst 0, 1) := by decide +kernel
theorem dL_law_976 : decode cL_law 976 = .ok (.ireturn, 1) := by decide +kernel
theorem dL_law_977 : decode cL_law 977 = .ok (.iload 6, 2) := by decide +kernel
theorem dL_law_979 : decode cL_law 979 = .ok (.ifCond .ne 22, 3) := by decide +kernel
theorem dL_law_982 : decode cL_law 982 = .ok (.aload_n 3, 1) := by decide +kernel
theorem dL_law_983 : decode cL_law 983 = .ok (.iconst 0, 1) := by decide +kernel
theorem dL_law_984 : decode cL_law 984 = .ok (.laload, 1) := by decide +kernel
theorem dL_law_985 : decode cL_law 985 = .ok (.iload 7, 2) := by decide +kernel
theorem dL_law_987 : decode cL_law 987 = .ok (.ifCond .eq 7, 3) := by decide +kernel
theorem dL_law_990 : decode cL_law 990 = .ok (.lconst 1, 1) := by decide +kernel
theorem dL_law_991 : decode cL_law 991 = .ok (.goto 4, 3) := by decide +kernel
theorem dL_law_994 : decode cL_law 994 = .ok (.lconst 0, 1) := by decide +kernel
theorem dL_law_995 : decode cL_law 995 = .ok (.lcmp, 1) := by decide +kernel
theorem dL_law_996 : decode cL_law 996 = .ok (.ifCond .eq 5, 3) := by decide +kernel
theorem dL_law_999 : decode cL_law 999 = .ok (.iconst 0, 1) := by decide +kernel
theorem dL_law_1000 : decode cL_law 1000 = .ok (.ireturn, 1) := by decide +kernel
theorem dL_law_1001 : decode cL_law 1001 = .ok (.goto 501, 3) := by decide +kernel
theorem dL_law_1004 : decode cL_law 1004 = .ok (.aload_n 1, 1) := by decide +kernel
theorem dL_law_1005 : decode cL_law 1005 = .ok (.aload_n 0, 1) := by decide +kernel
theorem dL_law_1006 : decode cL_law 1006 = .ok (.iload 5, 2) := by decide +kernel
theorem dL_law_1008 : decode cL_law 1008 = .ok (.iconst 1, 1) := by decide +kernel
theorem dL_law_1009 : decode cL_law 1009 = .ok (.iadd, 1) := by decide +kernel
theorem dL_law_1010 : decode cL_law 1010 = .ok (.iaload, 1) := by decide +kernel
theorem dL_law_1011 : decode cL_law 1011 = .ok (.aload_n 3, 1) := by decide +kernel
theorem dL_law_1012 : decode cL_law 1012 = .ok (.invokestatic 158, 3) := by decide +kernel
theorem dL_law_1015 : decode cL_law 1015 = .ok (.istore 6, 2) := by decide +kernel
theorem dL_law_1017 : decode cL_law 1017 = .ok (.aload_n 2, 1) := by decide +kernel
theorem dL_law_1018 : decode cL_law 1018 = .ok (.aload_n 0, 1) := by decide +kernel
theorem dL_law_1019 : decode cL_law 1019 = .ok (.iload 5, 2) := by decide +kernel
theorem dL_law_1021 : decode cL_law 1021 = .ok (.iconst 1, 1) := by decide +kernel
theorem dL_law_1022 : decode cL_law 1022 = .ok (.iadd, 1) := by decide +kernel
theorem dL_law_1023 : decode cL_law 1023 = .ok (.iaload, 1) := by decide +kernel
theorem dL_law_1024 : decode cL_law 1024 = .ok (.invokevirtual 160, 3) := by decide +kernel
theorem dL_law_1027 : decode cL_law 1027 = .ok (.istore 7, 2) := by decide +kernel
theorem dL_law_1029 : decode cL_law 1029 = .ok (.aload_n 2, 1) := by decide +kernel
theorem dL_law_1030 : decode cL_law 1030 = .ok (.invokevirtual 97, 3) := by decide +kernel
theorem dL_law_1033 : decode cL_law 1033 = .ok (.iload 6, 2) := by decide +kernel
theorem dL_law_1035 : decode cL_law 1035 = .ok (.if_icmp .eq 5, 3) := by decide +kernel
theorem dL_law_1038 : decode cL_law 1038 = .ok (.iconst 0, 1) := by decide +kernel
theorem dL_law_1039 : decode cL_law 1039 = .ok (.ireturn, 1) := by decide +kernel
theorem dL_law_1040 : decode cL_law 1040 = .ok (.iload 6, 2) := by decide +kernel
theorem dL_law_1042 : decode cL_law 1042 = .ok (.ifCond .ne 22, 3) := by decide +kernel
theorem dL_law_1045 : decode cL_law 1045 = .ok (.aload_n 3, 1) := by decide +kernel
theorem dL_law_1046 : decode cL_law 1046 = .ok (.iconst 0, 1) := by decide +kernel
theorem dL_law_1047 : decode cL_law 1047 = .ok (.laload, 1) := by decide +kernel
theorem dL_law_1048 : decode cL_law 1048 = .ok (.iload 7, 2) := by decide +kernel
theorem dL_law_1050 : decode cL_law 1050 = .ok (.ifCond .eq 7, 3) := by decide +kernel
theorem dL_law_1053 : decode cL_law 1053 = .ok (.lconst 1, 1) := by decide +kernel
theorem dL_law_1054 : decode cL_law 1054 = .ok (.goto 4, 3) := by decide +kernel
theorem dL_law_1057 : decode cL_law 1057 = .ok (.lconst 0, 1) := by decide +kernel
theorem dL_law_1058 : decode cL_law 1058 = .ok (.lcmp, 1) := by decide +kernel
theorem dL_law_1059 : decode cL_law 1059 = .ok (.ifCond .eq 5, 3) := by decide +kernel
theorem dL_law_1062 : decode cL_law 1062 = .ok (.iconst 0, 1) := by decide +kernel
theorem dL_law_1063 : decode cL_law 1063 = .ok (.ireturn, 1) := by decide +kernel
theorem dL_law_1064 : decode cL_law 1064 = .ok (.goto 438, 3) := by decide +kernel
theorem dL_law_1067 : decode cL_law 1067 = .ok (.aload_n 1, 1) := by decide +kernel
theorem dL_law_1068 : decode cL_law 1068 = .ok (.aload_n 0, 1) := by decide +kernel
theorem dL_law_1069 : decode cL_law 1069 = .ok (.iload 5, 2) := by decide +kernel
theorem dL_law_1071 : decode cL_law 1071 = .ok (.iconst 1, 1) := by decide +kernel
theorem dL_law_1072 : decode cL_law 1072 = .ok (.iadd, 1) := by decide +kernel
theorem dL_law_1073 : decode cL_law 1073 = .ok (.iaload, 1) := by decide +kernel
theorem dL_law_1074 : decode cL_law 1074 = .ok (.aload_n 0, 1) := by decide +kernel
theorem dL_law_1075 : decode cL_law 1075 = .ok (.iload 5, 2) := by decide +kernel
theorem dL_law_1077 : decode cL_law 1077 = .ok (.iconst 2, 1) := by decide +kernel
theorem dL_law_1078 : decode cL_law 1078 = .ok (.iadd, 1) := by decide +kernel
theorem dL_law_1079 : decode cL_law 1079 = .ok (.iaload, 1) := by decide +kernel
theorem dL_law_1080 : decode cL_law 1080 = .ok (.aload_n 3, 1) := by decide +kernel
theorem dL_law_1081 : decode cL_law 1081 = .ok (.invokestatic 161, 3) := by decide +kernel
theorem dL_law_1084 : decode cL_law 1084 = .ok (.istore 6, 2) := by decide +kernel
theorem dL_law_1086 : decode cL_law 1086 = .ok (.aload_n 2, 1) := by decide +kernel
theorem dL_law_1087 : decode cL_law 1087 = .ok (.aload_n 0, 1) := by decide +kernel
theorem dL_law_1088 : decode cL_law 1088 = .ok (.iload 5, 2) := by decide +kernel
theorem dL_law_1090 : decode cL_law 1090 = .ok (.iconst 1, 1) := by decide +kernel
theorem dL_law_1091 : decode cL_law 1091 = .ok (.iadd, 1) := by decide +kernel
theorem dL_law_1092 : decode cL_law 1092 = .ok (.iaload, 1) := by decide +kernel
theorem dL_law_1093 : decode cL_law 1093 = .ok (.aload_n 0, 1) := by decide +kernel
theorem dL_law_1094 : decode cL_law 1094 = .ok (.iload 5, 2) := by decide +kernel
theorem dL_law_1096 : decode cL_law 1096 = .ok (.iconst 2, 1) := by decide +kernel
theorem dL_law_1097 : decode cL_law 1097 = .ok (.iadd, 1) := by decide +kernel
theorem dL_law_1098 : decode cL_law 1098 = .ok (.iaload, 1) := by decide +kernel
theorem dL_law_1099 : decode cL_law 1099 = .ok (.invokevirtual 163, 3) := by decide +kernel
theorem dL_law_1102 : decode cL_law 1102 = .ok (.istore 7, 2) := by decide +kernel
theorem dL_law_1104 : decode cL_law 1104 = .ok (.aload_n 2, 1) := by decide +kernel
theorem dL_law_1105 : decode cL_law 1105 = .ok (.invokevirtual 97, 3) := by decide +kernel
theorem dL_law_1108 : decode cL_law 1108 = .ok (.iload 6, 2) := by decide +kernel
theorem dL_law_1110 : decode cL_law 1110 = .ok (.if_icmp .eq 5, 3) := by decide +kernel
theorem dL_law_1113 : decode cL_law 1113 = .ok (.iconst 0, 1) := by decide +kernel
theorem dL_law_1114 : decode cL_law 1114 = .ok (.ireturn, 1) := by decide +kernel
theorem dL_law_1115 : decode cL_law 1115 = .ok (.iload 6, 2) := by decide +kernel
theorem dL_law_1117 : decode cL_law 1117 = .ok (.ifCond .ne 15, 3) := by decide +kernel
theorem dL_law_1120 : decode cL_law 1120 = .ok (.aload_n 3, 1) := by decide +kernel
theorem dL_law_1121 : decode cL_law 1121 = .ok (.iconst 0, 1) := by decide +kernel
theorem dL_law_1122 : decode cL_law 1122 = .ok (.laload, 1) := by decide +kernel
theorem dL_law_1123 : decode cL_law 1123 = .ok (.iload 7, 2) := by decide +kernel
theorem dL_law_1125 : decode cL_law 1125 = .ok (.i2l, 1) := by decide +kernel
theorem dL_law_1126 : decode cL_law 1126 = .ok (.lcmp, 1) := by decide +kernel
theorem dL_law_1127 : decode cL_law 1127 = .ok (.ifCond .eq 5, 3) := by decide +kernel
theorem dL_law_1130 : decode cL_law 1130 = .ok (.iconst 0, 1) := by decide +kernel
theorem dL_law_1131 : decode cL_law 1131 = .ok (.ireturn, 1) := by decide +kernel
theorem dL_law_1132 : decode cL_law 1132 = .ok (.goto 370, 3) := by decide +kernel
theorem dL_law_1135 : decode cL_law 1135 = .ok (.aload_n 1, 1) := by decide +kernel
theorem dL_law_1136 : decode cL_law 1136 = .ok (.aload_n 0, 1) := by decide +kernel
theorem dL_law_1137 : decode cL_law 1137 = .ok (.iload 5, 2) := by decide +kernel
theorem dL_law_1139 : decode cL_law 1139 = .ok (.iconst 1, 1) := by decide +kernel
theorem dL_law_1140 : decode cL_law 1140 = .ok (.iadd, 1) := by decide +kernel
theorem dL_law_1141 : decode cL_law 1141 = .ok (.iaload, 1) := by decide +kernel
theorem dL_law_1142 : decode cL_law 1142 = .ok (.aload_n 3, 1) := by decide +kernel
theorem dL_law_1143 : decode cL_law 1143 = .ok (.invokestatic 164, 3) := by decide +kernel
theorem dL_law_1146 : decode cL_law 1146 = .ok (.istore 6, 2) := by decide +kernel
theorem dL_law_1148 : decode cL_law 1148 = .ok (.aload_n 2, 1) := by decide +kernel
theorem dL_law_1149 : decode cL_law 1149 = .ok (.aload_n 0, 1) := by decide +kernel
theorem dL_law_1150 : decode cL_law 1150 = .ok (.iload 5, 2) := by decide +kernel
theorem dL_law_1152 : decode cL_law 1152 = .ok (.iconst 1, 1) := by decide +kernel
theorem dL_law_1153 : decode cL_law 1153 = .ok (.iadd, 1) := by decide +kernel
theorem dL_law_1154 : decode cL_law 1154 = .ok (.iaload, 1) := by decide +kernel
theorem dL_law_1155 : decode cL_law 1155 = .ok (.invokevirtual 166, 3) := by decide +kernel
theorem dL_law_1158 : decode cL_law 1158 = .ok (.istore 7, 2) := by decide +kernel
theorem dL_law_1160 : decode cL_law 1160 = .ok (.aload_n 2, 1) := by decide +kernel
theorem dL_law_1161 : decode cL_law 1161 = .ok (.invokevirtual 97, 3) := by decide +kernel
theorem dL_law_1164 : decode cL_law 1164 = .ok (.iload 6, 2) := by decide +kernel
theorem dL_law_1166 : decode cL_law 1166 = .ok (.if_icmp .eq 5, 3) := by decide +kernel
theorem dL_law_1169 : decode cL_law 1169 = .ok (.iconst 0, 1) := by decide +kernel
theorem dL_law_1170 : decode cL_law 1170 = .ok (.ireturn, 1) := by decide +kernel
theorem dL_law_1171 : decode cL_law 1171 = .ok (.iload 6, 2) := by decide +kernel
theorem dL_law_1173 : decode cL_law 1173 = .ok (.ifCond .ne 15, 3) := by decide +kernel
theorem dL_law_1176 : decode cL_law 1176 = .ok (.aload_n 3, 1) := by decide +kernel
theorem dL_law_1177 : decode cL_law 1177 = .ok (.iconst 0, 1) := by decide +kernel
theorem dL_law_1178 : decode cL_law 1178 = .ok (.laload, 1) := by decide +kernel
theorem dL_law_1179 : decode cL_law 1179 = .ok (.iload 7, 2) := by decide +kernel
theorem dL_law_1181 : decode cL_law 1181 = .ok (.i2l, 1) := by decide +kernel
theorem dL_law_1182 : decode cL_law 1182 = .ok (.lcmp, 1) := by decide +kernel
theorem dL_law_1183 : decode cL_law 1183 = .ok (.ifCond .eq 5, 3) := by decide +kernel
theorem dL_law_1186 : decode cL_law 1186 = .ok (.iconst 0, 1) := by decide +kernel
theorem dL_law_1187 : decode cL_law 1187 = .ok (.ireturn, 1) := by decide +kernel
theorem dL_law_1188 : decode cL_law 1188 = .ok (.goto 314, 3) := by decide +kernel
theorem dL_law_1191 : decode cL_law 1191 = .ok (.aload_n 1, 1) := by decide +kernel
theorem dL_law_1192 : decode cL_law 1192 = .ok (.aload_n 0, 1) := by decide +kernel
theorem dL_law_1193 : decode cL_law 1193 = .ok (.iload 5, 2) := by decide +kernel
theorem dL_law_1195 : decode cL_law 1195 = .ok (.iconst 1, 1) := by decide +kernel
theorem dL_law_1196 : decode cL_law 1196 = .ok (.iadd, 1) := by decide +kernel
theorem dL_law_1197 : decode cL_law 1197 = .ok (.iaload, 1) := by decide +kernel
theorem dL_law_1198 : decode cL_law 1198 = .ok (.aload_n 3, 1) := by decide +kernel
theorem dL_law_1199 : decode cL_law 1199 = .ok (.invokestatic 167, 3) := by decide +kernel
theorem dL_law_1202 : decode cL_law 1202 = .ok (.istore 6, 2) := by decide +kernel
theorem dL_law_1204 : decode cL_law 1204 = .ok (.aload_n 2, 1) := by decide +kernel
theorem dL_law_1205 : decode cL_law 1205 = .ok (.aload_n 0, 1) := by decide +kernel
theorem dL_law_1206 : decode cL_law 1206 = .ok (.iload 5, 2) := by decide +kernel
theorem dL_law_1208 : decode cL_law 1208 = .ok (.iconst 1, 1) := by decide +kernel
theorem dL_law_1209 : decode cL_law 1209 = .ok (.iadd, 1) := by decide +kernel
theorem dL_law_1210 : decode cL_law 1210 = .ok (.iaload, 1) := by decide +kernel
theorem dL_law_1211 : decode cL_law 1211 = .ok (.invokevirtual 169, 3) := by decide +kernel
theorem dL_law_1214 : decode cL_law 1214 = .ok (.istore 7, 2) := by decide +kernel
theorem dL_law_1216 : decode cL_law 1216 = .ok (.aload_n 2, 1) := by decide +kernel
theorem dL_law_1217 : decode cL_law 1217 = .ok (.invokevirtual 97, 3) := by decide +kernel
theorem dL_law_1220 : decode cL_law 1220 = .ok (.iload 6, 2) := by decide +kernel
theorem dL_law_1222 : decode cL_law 1222 = .ok (.if_icmp .eq 5, 3) := by decide +kernel
theorem dL_law_1225 : decode cL_law 1225 = .ok (.iconst 0, 1) := by decide +kernel
theorem dL_law_1226 : decode cL_law 1226 = .ok (.ireturn, 1) := by decide +kernel
theorem dL_law_1227 : decode cL_law 1227 = .ok (.iload 6, 2) := by decide +kernel
theorem dL_law_1229 : decode cL_law 1229 = .ok (.ifCond .ne 15, 3) := by decide +kernel
theorem dL_law_1232 : decode cL_law 1232 = .ok (.aload_n 3, 1) := by decide +kernel
theorem dL_law_1233 : decode cL_law 1233 = .ok (.iconst 0, 1) := by decide +kernel
theorem dL_law_1234 : decode cL_law 1234 = .ok (.laload, 1) := by decide +kernel
theorem dL_law_1235 : decode cL_law 1235 = .ok (.iload 7, 2) := by decide +kernel
theorem dL_law_1237 : decode cL_law 1237 = .ok (.i2l, 1) := by decide +kernel
theorem dL_law_1238 : decode cL_law 1238 = .ok (.lcmp, 1) := by decide +kernel
theorem dL_law_1239 : decode cL_law 1239 = .ok (.ifCond .eq 5, 3) := by decide +kernel
theorem dL_law_1242 : decode cL_law 1242 = .ok (.iconst 0, 1) := by decide +kernel
theorem dL_law_1243 : decode cL_law 1243 = .ok (.ireturn, 1) := by decide +kernel
theorem dL_law_1244 : decode cL_law 1244 = .ok (.goto 258, 3) := by decide +kernel
theorem dL_law_1247 : decode cL_law 1247 = .ok (.aload_n 1, 1) := by decide +kernel
theorem dL_law_1248 : decode cL_law 1248 = .ok (.aload_n 0, 1) := by decide +kernel
theorem dL_law_1249 : decode cL_law 1249 = .ok (.iload 5, 2) := by decide +kernel
theorem dL_law_1251 : decode cL_law 1251 = .ok (.iconst 1, 1) := by decide +kernel
theorem dL_law_1252 : decode cL_law 1252 = .ok (.iadd, 1) := by decide +kernel
theorem dL_law_1253 : decode cL_law 1253 = .ok (.iaload, 1) := by decide +kernel
theorem dL_law_1254 : decode cL_law 1254 = .ok (.aload_n 3, 1) := by decide +kernel
theorem dL_law_1255 : decode cL_law 1255 = .ok (.invokestatic 170, 3) := by decide +kernel
theorem dL_law_1258 : decode cL_law 1258 = .ok (.istore 6, 2) := by decide +kernel
theorem dL_law_1260 : decode cL_law 1260 = .ok (.aload_n 2, 1) := by decide +kernel
theorem dL_law_1261 : decode cL_law 1261 = .ok (.aload_n 0, 1) := by decide +kernel
theorem dL_law_1262 : decode cL_law 1262 = .ok (.iload 5, 2) := by decide +kernel
theorem dL_law_1264 : decode cL_law 1264 = .ok (.iconst 1, 1) := by decide +kernel
theorem dL_law_1265 : decode cL_law 1265 = .ok (.iadd, 1) := by decide +kernel
theorem dL_law_1266 : decode cL_law 1266 = .ok (.iaload, 1) := by decide +kernel
theorem dL_law_1267 : decode cL_law 1267 = .ok (.invokevirtual 172, 3) := by decide +kernel
theorem dL_law_1270 : decode cL_law 1270 = .ok (.istore 7, 2) := by decide +kernel
theorem dL_law_1272 : decode cL_law 1272 = .ok (.aload_n 2, 1) := by decide +kernel
theorem dL_law_1273 : decode cL_law 1273 = .ok (.invokevirtual 97, 3) := by decide +kernel
theorem dL_law_1276 : decode cL_law 1276 = .ok (.iload 6, 2) := by decide +kernel
theorem dL_law_1278 : decode cL_law 1278 = .ok (.if_icmp .eq 5, 3) := by decide +kernel
theorem dL_law_1281 : decode cL_law 1281 = .ok (.iconst 0, 1) := by decide +kernel
theorem dL_law_1282 : decode cL_law 1282 = .ok (.ireturn, 1) := by decide +kernel
theorem dL_law_1283 : decode cL_law 1283 = .ok (.iload 6, 2) := by decide +kernel
theorem dL_law_1285 : decode cL_law 1285 = .ok (.ifCond .ne 15, 3) := by decide +kernel
theorem dL_law_1288 : decode cL_law 1288 = .ok (.aload_n 3, 1) := by decide +kernel
theorem dL_law_1289 : decode cL_law 1289 = .ok (.iconst 0, 1) := by decide +kernel
theorem dL_law_1290 : decode cL_law 1290 = .ok (.laload, 1) := by decide +kernel
theorem dL_law_1291 : decode cL_law 1291 = .ok (.iload 7, 2) := by decide +kernel
theorem dL_law_1293 : decode cL_law 1293 = .ok (.i2l, 1) := by decide +kernel
theorem dL_law_1294 : decode cL_law 1294 = .ok (.lcmp, 1) := by decide +kernel
theorem dL_law_1295 : decode cL_law 1295 = .ok (.ifCond .eq 5, 3) := by decide +kernel
theorem dL_law_1298 : decode cL_law 1298 = .ok (.iconst 0, 1) := by decide +kernel
theorem dL_law_1299 : decode cL_law 1299 = .ok (.ireturn, 1) := by decide +kernel
theorem dL_law_1300 : decode cL_law 1300 = .ok (.goto 202, 3) := by decide +kernel
theorem dL_law_1303 : decode cL_law 1303 = .ok (.aload_n 1, 1) := by decide +kernel
theorem dL_law_1304 : decode cL_law 1304 = .ok (.invokevirtual 173, 3) := by decide +kernel
theorem dL_law_1307 : decode cL_law 1307 = .ok (.aload_n 2, 1) := by decide +kernel
theorem dL_law_1308 : decode cL_law 1308 = .ok (.invokevirtual 177, 3) := by decide +kernel
theorem dL_law_1311 : decode cL_law 1311 = .ok (.lcmp, 1) := by decide +kernel
theorem dL_law_1312 : decode cL_law 1312 = .ok (.ifCond .eq 190, 3) := by decide +kernel
theorem dL_law_1315 : decode cL_law 1315 = .ok (.iconst 0, 1) := by decide +kernel
theorem dL_law_1316 : decode cL_law 1316 = .ok (.ireturn, 1) := by decide +kernel
theorem dL_law_1317 : decode cL_law 1317 = .ok (.aload_n 1, 1) := by decide +kernel
theorem dL_law_1318 : decode cL_law 1318 = .ok (.invokevirtual 178, 3) := by decide +kernel
theorem dL_law_1321 : decode cL_law 1321 = .ok (.aload_n 2, 1) := by decide +kernel
theorem dL_law_1322 : decode cL_law 1322 = .ok (.invokevirtual 181, 3) := by decide +kernel
theorem dL_law_1325 : decode cL_law 1325 = .ok (.lcmp, 1) := by decide +kernel
theorem dL_law_1326 : decode cL_law 1326 = .ok (.ifCond .eq 176, 3) := by decide +kernel
theorem dL_law_1329 : decode cL_law 1329 = .ok (.iconst 0, 1) := by decide +kernel
theorem dL_law_1330 : decode cL_law 1330 = .ok (.ireturn, 1) := by decide +kernel
theorem dL_law_1331 : decode cL_law 1331 = .ok (.aload_n 1, 1) := by decide +kernel
theorem dL_law_1332 : decode cL_law 1332 = .ok (.invokevirtual 182, 3) := by decide +kernel
theorem dL_law_1335 : decode cL_law 1335 = .ok (.aload_n 2, 1) := by decide +kernel
theorem dL_law_1336 : decode cL_law 1336 = .ok (.invokevirtual 185, 3) := by decide +kernel
theorem dL_law_1339 : decode cL_law 1339 = .ok (.lcmp, 1) := by decide +kernel
theorem dL_law_1340 : decode cL_law 1340 = .ok (.ifCond .eq 162, 3) := by decide +kernel
theorem dL_law_1343 : decode cL_law 1343 = .ok (.iconst 0, 1) := by decide +kernel
theorem dL_law_1344 : decode cL_law 1344 = .ok (.ireturn, 1) := by decide +kernel
theorem dL_law_1345 : decode cL_law 1345 = .ok (.aload_n 1, 1) := by decide +kernel
theorem dL_law_1346 : decode cL_law 1346 = .ok (.invokevirtual 186, 3) := by decide +kernel
theorem dL_law_1349 : decode cL_law 1349 = .ok (.aload_n 2, 1) := by decide +kernel
theorem dL_law_1350 : decode cL_law 1350 = .ok (.invokevirtual 189, 3) := by decide +kernel
theorem dL_law_1353 : decode cL_law 1353 = .ok (.if_icmp .eq 149, 3) := by decide +kernel
theorem dL_law_1356 : decode cL_law 1356 = .ok (.iconst 0, 1) := by decide +kernel
theorem dL_law_1357 : decode cL_law 1357 = .ok (.ireturn, 1) := by decide +kernel
theorem dL_law_1358 : decode cL_law 1358 = .ok (.aload_n 1, 1) := by decide +kernel
theorem dL_law_1359 : decode cL_law 1359 = .ok (.aload 4, 2) := by decide +kernel
theorem dL_law_1361 : decode cL_law 1361 = .ok (.invokestatic 190, 3) := by decide +kernel
theorem dL_law_1364 : decode cL_law 1364 = .ok (.istore 6, 2) := by decide +kernel
theorem dL_law_1366 : decode cL_law 1366 = .ok (.aload_n 2, 1) := by decide +kernel
theorem dL_law_1367 : decode cL_law 1367 = .ok (.invokevirtual 193, 3) := by decide +kernel
theorem dL_law_1370 : decode cL_law 1370 = .ok (.dstore 7, 2) := by decide +kernel
theorem dL_law_1372 : decode cL_law 1372 = .ok (.aload_n 2, 1) := by decide +kernel
theorem dL_law_1373 : decode cL_law 1373 = .ok (.invokevirtual 97, 3) := by decide +kernel
theorem dL_law_1376 : decode cL_law 1376 = .ok (.iload 6, 2) := by decide +kernel
theorem dL_law_1378 : decode cL_law 1378 = .ok (.if_icmp .eq 5, 3) := by decide +kernel
theorem dL_law_1381 : decode cL_law 1381 = .ok (.iconst 0, 1) := by decide +kernel
theorem dL_law_1382 : decode cL_law 1382 = .ok (.ireturn, 1) := by decide +kernel
theorem dL_law_1383 : decode cL_law 1383 = .ok (.iload 6, 2) := by decide +kernel
theorem dL_law_1385 : decode cL_law 1385 = .ok (.ifCond .ne 35, 3) := by decide +kernel
theorem dL_law_1388 : decode cL_law 1388 = .ok (.aload 4, 2) := by decide +kernel
theorem dL_law_1390 : decode cL_law 1390 = .ok (.iconst 0, 1) := by decide +kernel
theorem dL_law_1391 : decode cL_law 1391 = .ok (.daload, 1) := by decide +kernel
theorem dL_law_1392 : decode cL_law 1392 = .ok (.dload 7, 2) := by decide +kernel
theorem dL_law_1394 : decode cL_law 1394 = .ok (.dcmp .l, 1) := by decide +kernel
theorem dL_law_1395 : decode cL_law 1395 = .ok (.ifCond .eq 25, 3) := by decide +kernel
theorem dL_law_1398 : decode cL_law 1398 = .ok (.aload 4, 2) := by decide +kernel
theorem dL_law_1400 : decode cL_law 1400 = .ok (.iconst 0, 1) := by decide +kernel
theorem dL_law_1401 : decode cL_law 1401 = .ok (.daload, 1) := by decide +kernel
theorem dL_law_1402 : decode cL_law 1402 = .ok (.aload 4, 2) := by decide +kernel
theorem dL_law_1404 : decode cL_law 1404 = .ok (.iconst 0, 1) := by decide +kernel
theorem dL_law_1405 : decode cL_law 1405 = .ok (.daload, 1) := by decide +kernel
theorem dL_law_1406 : decode cL_law 1406 = .ok (.dcmp .l, 1) := by decide +kernel
theorem dL_law_1407 : decode cL_law 1407 = .ok (.ifCond .eq 11, 3) := by decide +kernel
theorem dL_law_1410 : decode cL_law 1410 = .ok (.dload 7, 2) := by decide +kernel
theorem dL_law_1412 : decode cL_law 1412 = .ok (.dload 7, 2) := by decide +kernel
theorem dL_law_1414 : decode cL_law 1414 = .ok (.dcmp .l, 1) := by decide +kernel
theorem dL_law_1415 : decode cL_law 1415 = .ok (.ifCond .ne 5, 3) := by decide +kernel
theorem dL_law_1418 : decode cL_law 1418 = .ok (.iconst 0, 1) := by decide +kernel
theorem dL_law_1419 : decode cL_law 1419 = .ok (.ireturn, 1) := by decide +kernel
theorem dL_law_1420 : decode cL_law 1420 = .ok (.goto 82, 3) := by decide +kernel
theorem dL_law_1423 : decode cL_law 1423 = .ok (.aload_n 1, 1) := by decide +kernel
theorem dL_law_1424 : decode cL_law 1424 = .ok (.aload 4, 2) := by decide +kernel
theorem dL_law_1426 : decode cL_law 1426 = .ok (.invokestatic 194, 3) := by decide +kernel
theorem dL_law_1429 : decode cL_law 1429 = .ok (.istore 6, 2) := by decide +kernel
theorem dL_law_1431 : decode cL_law 1431 = .ok (.aload_n 2, 1) := by decide +kernel
theorem dL_law_1432 : decode cL_law 1432 = .ok (.invokevirtual 196, 3) := by decide +kernel
theorem dL_law_1435 : decode cL_law 1435 = .ok (.fstore 7, 2) := by decide +kernel
theorem dL_law_1437 : decode cL_law 1437 = .ok (.aload_n 2, 1) := by decide +kernel
theorem dL_law_1438 : decode cL_law 1438 = .ok (.invokevirtual 97, 3) := by decide +kernel
theorem dL_law_1441 : decode cL_law 1441 = .ok (.iload 6, 2) := by decide +kernel
theorem dL_law_1443 : decode cL_law 1443 = .ok (.if_icmp .eq 5, 3) := by decide +kernel
theorem dL_law_1446 : decode cL_law 1446 = .ok (.iconst 0, 1) := by decide +kernel
theorem dL_law_1447 : decode cL_law 1447 = .ok (.ireturn, 1) := by decide +kernel
theorem dL_law_1448 : decode cL_law 1448 = .ok (.iload 6, 2) := by decide +kernel
theorem dL_law_1450 : decode cL_law 1450 = .ok (.ifCond .ne 36, 3) := by decide +kernel
theorem dL_law_1453 : decode cL_law 1453 = .ok (.aload 4, 2) := by decide +kernel
theorem dL_law_1455 : decode cL_law 1455 = .ok (.iconst 0, 1) := by decide +kernel
theorem dL_law_1456 : decode cL_law 1456 = .ok (.daload, 1) := by decide +kernel
theorem dL_law_1457 : decode cL_law 1457 = .ok (.fload 7, 2) := by decide +kernel
theorem dL_law_1459 : decode cL_law 1459 = .ok (.f2d, 1) := by decide +kernel
theorem dL_law_1460 : decode cL_law 1460 = .ok (.dcmp .l, 1) := by decide +kernel
theorem dL_law_1461 : decode cL_law 1461 = .ok (.ifCond .eq 25, 3) := by decide +kernel
theorem dL_law_1464 : decode cL_law 1464 = .ok (.aload 4, 2) := by decide +kernel
theorem dL_law_1466 : decode cL_law 1466 = .ok (.iconst 0, 1) := by decide +kernel
theorem dL_law_1467 : decode cL_law 1467 = .ok (.daload, 1) := by decide +kernel
theorem dL_law_1468 : decode cL_law 1468 = .ok (.aload 4, 2) := by decide +kernel
theorem dL_law_1470 : decode cL_law 1470 = .ok (.iconst 0, 1) := by decide +kernel
theorem dL_law_1471 : decode cL_law 1471 = .ok (.daload, 1) := by decide +kernel
theorem dL_law_1472 : decode cL_law 1472 = .ok (.dcmp .l, 1) := by decide +kernel
theorem dL_law_1473 : decode cL_law 1473 = .ok (.ifCond .eq 11, 3) := by decide +kernel
theorem dL_law_1476 : decode cL_law 1476 = .ok (.fload 7, 2) := by decide +kernel
theorem dL_law_1478 : decode cL_law 1478 = .ok (.fload 7, 2) := by decide +kernel
theorem dL_law_1480 : decode cL_law 1480 = .ok (.fcmp .l, 1) := by decide +kernel
theorem dL_law_1481 : decode cL_law 1481 = .ok (.ifCond .ne 5, 3) := by decide +kernel
theorem dL_law_1484 : decode cL_law 1484 = .ok (.iconst 0, 1) := by decide +kernel
theorem dL_law_1485 : decode cL_law 1485 = .ok (.ireturn, 1) := by decide +kernel
theorem dL_law_1486 : decode cL_law 1486 = .ok (.goto 16, 3) := by decide +kernel
theorem dL_law_1489 : decode cL_law 1489 = .ok (.aload_n 1, 1) := by decide +kernel
theorem dL_law_1490 : decode cL_law 1490 = .ok (.invokevirtual 197, 3) := by decide +kernel
theorem dL_law_1493 : decode cL_law 1493 = .ok (.aload_n 2, 1) := by decide +kernel
theorem dL_law_1494 : decode cL_law 1494 = .ok (.invokevirtual 201, 3) := by decide +kernel
theorem dL_law_1497 : decode cL_law 1497 = .ok (.if_icmp .eq 5, 3) := by decide +kernel
theorem dL_law_1500 : decode cL_law 1500 = .ok (.iconst 0, 1) := by decide +kernel
theorem dL_law_1501 : decode cL_law 1501 = .ok (.ireturn, 1) := by decide +kernel
theorem dL_law_1502 : decode cL_law 1502 = .ok (.iinc 5 3, 3) := by decide +kernel
theorem dL_law_1505 : decode cL_law 1505 = .ok (.goto (-1477), 3) := by decide +kernel
theorem dL_law_1508 : decode cL_law 1508 = .ok (.iconst 1, 1) := by decide +kernel
theorem dL_law_1509 : decode cL_law 1509 = .ok (.ireturn, 1) := by decide +kernel
end
section
/-! own layer: the words of the tables, by their places -/
def zz_BW : List Cond := lw_tbl.filter goodWord
theorem zz_tw (i : Nat) {w : Cond} (h : tables_1[i]? = some w) (g : goodWord w = true) : w ∈ zz_BW := List.mem_filter.mpr ⟨List.mem_append_right _ (List.mem_of_getElem? h), g⟩
theorem zz_sw (i : Nat) {w : Cond} (h : (k2_sels lw_privs)[i]? = some w) (g : goodWord w = true) : w ∈ zz_BW := List.mem_filter.mpr ⟨List.mem_append_left _ (List.mem_of_getElem? h), g⟩
theorem zz_tt (i : Nat) {w : Cond} (h : tables_1[i]? = some w) : w ∈ lw_tbl := List.mem_append_right _ (List.mem_of_getElem? h)
theorem zw_0 : (Cond.initialized "OpenFloorsLaw") ∈ zz_BW := zz_tw 0 (by decide +kernel) (by decide +kernel)
theorem zw_1 : (Cond.initialized "OpenFloors") ∈ zz_BW := zz_tw 1 (by decide +kernel) (by decide +kernel)
theorem zw_2 : (Cond.initialized "java/util/AbstractCollection") ∈ zz_BW := zz_tw 2 (by decide +kernel) (by decide +kernel)
theorem zw_3 : (Cond.initialized "java/util/AbstractList") ∈ zz_BW := zz_tw 3 (by decide +kernel) (by decide +kernel)
theorem zw_4 : (Cond.initialized "java/util/ArrayList") ∈ zz_BW := zz_tw 4 (by decide +kernel) (by decide +kernel)
theorem zw_5 : (Cond.initialized "OpenFloorsModel") ∈ zz_BW := zz_tw 5 (by decide +kernel) (by decide +kernel)
theorem zw_6 : (Cond.initialized "java/lang/Throwable") ∈ zz_BW := zz_tw 6 (by decide +kernel) (by decide +kernel)
theorem zw_7 : (Cond.initialized "java/lang/Exception") ∈ zz_BW := zz_tw 7 (by decide +kernel) (by decide +kernel)
theorem zw_8 : (Cond.initialized "java/lang/RuntimeException") ∈ zz_BW := zz_tw 8 (by decide +kernel) (by decide +kernel)
theorem zw_9 : (Cond.initialized "java/lang/IllegalArgumentException") ∈ zz_BW := zz_tw 9 (by decide +kernel) (by decide +kernel)
theorem zw_10 : (Cond.initialized "java/lang/IllegalStateException") ∈ zz_BW := zz_tw 10 (by decide +kernel) (by decide +kernel)
theorem zw_11 : (Cond.initialized "OpenFloors$Floor") ∈ zz_BW := zz_tw 11 (by decide +kernel) (by decide +kernel)
theorem zw_12 : (Cond.initialized "jdk/internal/util/ArraysSupport") ∈ zz_BW := zz_tw 12 (by decide +kernel) (by decide +kernel)
theorem zw_13 : (Cond.initialized "java/lang/Math") ∈ zz_BW := zz_tw 13 (by decide +kernel) (by decide +kernel)
theorem zw_14 : (Cond.initialized "java/util/Arrays") ∈ zz_BW := zz_tw 14 (by decide +kernel) (by decide +kernel)
theorem zw_15 : (Cond.initialized "java/lang/System") ∈ zz_BW := zz_tw 15 (by decide +kernel) (by decide +kernel)
theorem zw_16 : (Cond.initialized "java/lang/IndexOutOfBoundsException") ∈ zz_BW := zz_tw 16 (by decide +kernel) (by decide +kernel)
theorem zw_17 : (Cond.initialized "java/lang/ArrayIndexOutOfBoundsException") ∈ zz_BW := zz_tw 17 (by decide +kernel) (by decide +kernel)
theorem zw_18 : (Cond.initialized "java/lang/String") ∈ zz_BW := zz_tw 18 (by decide +kernel) (by decide +kernel)
theorem zw_19 : (Cond.initialized "java/util/Objects") ∈ zz_BW := zz_tw 19 (by decide +kernel) (by decide +kernel)
theorem zw_20 : (Cond.initialized "jdk/internal/util/Preconditions") ∈ zz_BW := zz_tw 20 (by decide +kernel) (by decide +kernel)
theorem zw_21 : (Cond.initialized "OpenFloors$Person") ∈ zz_BW := zz_tw 21 (by decide +kernel) (by decide +kernel)
theorem zw_22 : (Cond.initialized "java/util/NoSuchElementException") ∈ zz_BW := zz_tw 22 (by decide +kernel) (by decide +kernel)
theorem zw_23 : (Cond.initialized "java/lang/UnsupportedOperationException") ∈ zz_BW := zz_tw 23 (by decide +kernel) (by decide +kernel)
theorem zw_24 : (Cond.initialized "java/lang/ArithmeticException") ∈ zz_BW := zz_tw 24 (by decide +kernel) (by decide +kernel)
theorem zw_25 : (Cond.classLink "OpenFloorsLaw" (8 : Nat) "OpenFloors") ∈ zz_BW := zz_tw 25 (by decide +kernel) (by decide +kernel)
theorem zw_26 : (Cond.instantiable "OpenFloors" (8 : Nat)) ∈ zz_BW := zz_tw 26 (by decide +kernel) (by decide +kernel)
theorem zw_27 : (Cond.methodLink "OpenFloorsLaw" (87 : Nat) ({ cls := "OpenFloors", name := "<init>", desc := "()V" } : MethodName)) ∈ zz_BW := zz_tw 27 (by decide +kernel) (by decide +kernel)
theorem zw_28 : (Cond.instanceMethod ({ cls := "OpenFloors", name := "<init>", desc := "()V" } : MethodName)) ∈ zz_BW := zz_tw 28 (by decide +kernel) (by decide +kernel)
theorem zw_29 : (Cond.code ({ cls := "OpenFloors", name := "<init>", desc := "()V" } : MethodName) prog_1_method_1_code (1 : Nat) (Option.none : Option Jvm.ClassFile.FieldType)) ∈ zz_BW := zz_tw 29 (by decide +kernel) (by decide +kernel)
theorem zw_30 : (Cond.methodLink "OpenFloors" (3 : Nat) ({ cls := "java/lang/Object", name := "<init>", desc := "()V" } : MethodName)) ∈ zz_BW := zz_tw 30 (by decide +kernel) (by decide +kernel)
theorem zw_31 : (Cond.instanceMethod ({ cls := "java/lang/Object", name := "<init>", desc := "()V" } : MethodName)) ∈ zz_BW := zz_tw 31 (by decide +kernel) (by decide +kernel)
theorem zw_32 : (Cond.code ({ cls := "java/lang/Object", name := "<init>", desc := "()V" } : MethodName) object_method_1_code (1 : Nat) (Option.none : Option Jvm.ClassFile.FieldType)) ∈ zz_BW := zz_tw 32 (by decide +kernel) (by decide +kernel)
theorem zw_33 : (Cond.classLink "OpenFloors" (9 : Nat) "java/util/ArrayList") ∈ zz_BW := zz_tw 33 (by decide +kernel) (by decide +kernel)
theorem zw_34 : (Cond.instantiable "java/util/ArrayList" (3 : Nat)) ∈ zz_BW := zz_tw 34 (by decide +kernel) (by decide +kernel)
theorem zw_35 : (Cond.methodLink "OpenFloors" (11 : Nat) ({ cls := "java/util/ArrayList", name := "<init>", desc := "()V" } : MethodName)) ∈ zz_BW := zz_tw 35 (by decide +kernel) (by decide +kernel)
theorem zw_36 : (Cond.instanceMethod ({ cls := "java/util/ArrayList", name := "<init>", desc := "()V" } : MethodName)) ∈ zz_BW := zz_tw 36 (by decide +kernel) (by decide +kernel)
theorem zw_37 : (Cond.code ({ cls := "java/util/ArrayList", name := "<init>", desc := "()V" } : MethodName) prog_23_method_2_code (1 : Nat) (Option.none : Option Jvm.ClassFile.FieldType)) ∈ zz_BW := zz_tw 37 (by decide +kernel) (by decide +kernel)
theorem zw_38 : (Cond.methodLink "java/util/ArrayList" (1 : Nat) ({ cls := "java/util/AbstractList", name := "<init>", desc := "()V" } : MethodName)) ∈ zz_BW := zz_tw 38 (by decide +kernel) (by decide +kernel)
theorem zw_39 : (Cond.instanceMethod ({ cls := "java/util/AbstractList", name := "<init>", desc := "()V" } : MethodName)) ∈ zz_BW := zz_tw 39 (by decide +kernel) (by decide +kernel)
theorem zw_40 : (Cond.code ({ cls := "java/util/AbstractList", name := "<init>", desc := "()V" } : MethodName) prog_22_method_1_code (1 : Nat) (Option.none : Option Jvm.ClassFile.FieldType)) ∈ zz_BW := zz_tw 40 (by decide +kernel) (by decide +kernel)
theorem zw_41 : (Cond.methodLink "java/util/AbstractList" (1 : Nat) ({ cls := "java/util/AbstractCollection", name := "<init>", desc := "()V" } : MethodName)) ∈ zz_BW := zz_tw 41 (by decide +kernel) (by decide +kernel)
theorem zw_42 : (Cond.instanceMethod ({ cls := "java/util/AbstractCollection", name := "<init>", desc := "()V" } : MethodName)) ∈ zz_BW := zz_tw 42 (by decide +kernel) (by decide +kernel)
theorem zw_43 : (Cond.code ({ cls := "java/util/AbstractCollection", name := "<init>", desc := "()V" } : MethodName) prog_21_method_1_code (1 : Nat) (Option.none : Option Jvm.ClassFile.FieldType)) ∈ zz_BW := zz_tw 43 (by decide +kernel) (by decide +kernel)
theorem zw_44 : (Cond.methodLink "java/util/AbstractCollection" (1 : Nat) ({ cls := "java/lang/Object", name := "<init>", desc := "()V" } : MethodName)) ∈ zz_BW := zz_tw 44 (by decide +kernel) (by decide +kernel)
theorem zw_45 : (Cond.fieldLink "java/util/ArrayList" (39 : Nat) "java/util/ArrayList" "DEFAULTCAPACITY_EMPTY_ELEMENTDATA" "[Ljava/lang/Object;") ∈ zz_BW := zz_tw 45 (by decide +kernel) (by decide +kernel)
theorem zw_47 : (Cond.fieldLink "java/util/ArrayList" (9 : Nat) "java/util/ArrayList" "elementData" "[Ljava/lang/Object;") ∈ zz_BW := zz_tw 47 (by decide +kernel) (by decide +kernel)
theorem zw_48 : (Cond.fieldLink "java/util/ArrayList" (48 : Nat) "java/util/ArrayList" "size" "I") ∈ zz_BW := zz_tw 48 (by decide +kernel) (by decide +kernel)
theorem zw_49 : (Cond.fieldLink "java/util/AbstractList" (7 : Nat) "java/util/AbstractList" "modCount" "I") ∈ zz_BW := zz_tw 49 (by decide +kernel) (by decide +kernel)
theorem zw_50 : (Cond.fieldLink "java/util/ArrayList" (63 : Nat) "java/util/ArrayList" "modCount" "I") ∈ zz_BW := zz_tw 50 (by decide +kernel) (by decide +kernel)
theorem zw_51 : (Cond.sameField "java/util/ArrayList" "java/util/AbstractList" "modCount" "I") ∈ zz_BW := zz_tw 51 (by decide +kernel) (by decide +kernel)
theorem zw_52 : (Cond.lays "java/util/ArrayList" "java/util/ArrayList" "elementData" "[Ljava/lang/Object;") ∈ zz_BW := zz_tw 52 (by decide +kernel) (by decide +kernel)
theorem zw_53 : (Cond.soleField "java/util/ArrayList" "elementData") ∈ zz_BW := zz_tw 53 (by decide +kernel) (by decide +kernel)
theorem zw_54 : (Cond.lays "java/util/ArrayList" "java/util/ArrayList" "size" "I") ∈ zz_BW := zz_tw 54 (by decide +kernel) (by decide +kernel)
theorem zw_55 : (Cond.soleField "java/util/ArrayList" "size") ∈ zz_BW := zz_tw 55 (by decide +kernel) (by decide +kernel)
theorem zw_56 : (Cond.lays "java/util/ArrayList" "java/util/AbstractList" "modCount" "I") ∈ zz_BW := zz_tw 56 (by decide +kernel) (by decide +kernel)
theorem zw_57 : (Cond.soleField "java/util/AbstractList" "modCount") ∈ zz_BW := zz_tw 57 (by decide +kernel) (by decide +kernel)
theorem zw_58 : (Cond.superclass "java/util/ArrayList" "java/util/AbstractList") ∈ zz_BW := zz_tw 58 (by decide +kernel) (by decide +kernel)
theorem zw_59 : (Cond.fieldLink "OpenFloors" (12 : Nat) "OpenFloors" "floors" "Ljava/util/ArrayList;") ∈ zz_BW := zz_tw 59 (by decide +kernel) (by decide +kernel)
theorem zw_60 : (Cond.fieldLink "OpenFloors" (18 : Nat) "OpenFloors" "people" "Ljava/util/ArrayList;") ∈ zz_BW := zz_tw 60 (by decide +kernel) (by decide +kernel)
theorem zw_61 : (Cond.fieldLink "OpenFloors" (21 : Nat) "OpenFloors" "booked" "Ljava/util/ArrayList;") ∈ zz_BW := zz_tw 61 (by decide +kernel) (by decide +kernel)
theorem zw_62 : (Cond.fieldLink "OpenFloors" (24 : Nat) "OpenFloors" "day" "I") ∈ zz_BW := zz_tw 62 (by decide +kernel) (by decide +kernel)
theorem zw_63 : (Cond.fieldLink "OpenFloors" (28 : Nat) "OpenFloors" "noShows" "I") ∈ zz_BW := zz_tw 63 (by decide +kernel) (by decide +kernel)
theorem zw_64 : (Cond.fieldLink "OpenFloors" (31 : Nat) "OpenFloors" "energy" "J") ∈ zz_BW := zz_tw 64 (by decide +kernel) (by decide +kernel)
theorem zw_65 : (Cond.fieldLink "OpenFloors" (35 : Nat) "OpenFloors" "discomfort" "J") ∈ zz_BW := zz_tw 65 (by decide +kernel) (by decide +kernel)
theorem zw_66 : (Cond.fieldLink "OpenFloors" (38 : Nat) "OpenFloors" "cleaning" "J") ∈ zz_BW := zz_tw 66 (by decide +kernel) (by decide +kernel)
theorem zw_67 : (Cond.laysFinal "OpenFloors" "OpenFloors" "floors" "Ljava/util/ArrayList;") ∈ zz_BW := zz_tw 67 (by decide +kernel) (by decide +kernel)
theorem zw_68 : (Cond.soleField "OpenFloors" "floors") ∈ zz_BW := zz_tw 68 (by decide +kernel) (by decide +kernel)
theorem zw_69 : (Cond.laysFinal "OpenFloors" "OpenFloors" "people" "Ljava/util/ArrayList;") ∈ zz_BW := zz_tw 69 (by decide +kernel) (by decide +kernel)
theorem zw_70 : (Cond.soleField "OpenFloors" "people") ∈ zz_BW := zz_tw 70 (by decide +kernel) (by decide +kernel)
theorem zw_71 : (Cond.laysFinal "OpenFloors" "OpenFloors" "booked" "Ljava/util/ArrayList;") ∈ zz_BW := zz_tw 71 (by decide +kernel) (by decide +kernel)
theorem zw_72 : (Cond.soleField "OpenFloors" "booked") ∈ zz_BW := zz_tw 72 (by decide +kernel) (by decide +kernel)
theorem zw_73 : (Cond.lays "OpenFloors" "OpenFloors" "day" "I") ∈ zz_BW := zz_tw 73 (by decide +kernel) (by decide +kernel)
theorem zw_74 : (Cond.soleField "OpenFloors" "day") ∈ zz_BW := zz_tw 74 (by decide +kernel) (by decide +kernel)
theorem zw_75 : (Cond.lays "OpenFloors" "OpenFloors" "noShows" "I") ∈ zz_BW := zz_tw 75 (by decide +kernel) (by decide +kernel)
theorem zw_76 : (Cond.soleField "OpenFloors" "noShows") ∈ zz_BW := zz_tw 76 (by decide +kernel) (by decide +kernel)
theorem zw_77 : (Cond.lays "OpenFloors" "OpenFloors" "energy" "J") ∈ zz_BW := zz_tw 77 (by decide +kernel) (by decide +kernel)
theorem zw_78 : (Cond.soleField "OpenFloors" "energy") ∈ zz_BW := zz_tw 78 (by decide +kernel) (by decide +kernel)
theorem zw_79 : (Cond.lays "OpenFloors" "OpenFloors" "discomfort" "J") ∈ zz_BW := zz_tw 79 (by decide +kernel) (by decide +kernel)
theorem zw_80 : (Cond.soleField "OpenFloors" "discomfort") ∈ zz_BW := zz_tw 80 (by decide +kernel) (by decide +kernel)
theorem zw_81 : (Cond.lays "OpenFloors" "OpenFloors" "cleaning" "J") ∈ zz_BW := zz_tw 81 (by decide +kernel) (by decide +kernel)
theorem zw_82 : (Cond.soleField "OpenFloors" "cleaning") ∈ zz_BW := zz_tw 82 (by decide +kernel) (by decide +kernel)
theorem zw_83 : (Cond.superclass "OpenFloors" "java/lang/Object") ∈ zz_BW := zz_tw 83 (by decide +kernel) (by decide +kernel)
theorem zw_84 : (Cond.methodLink "OpenFloorsLaw" (116 : Nat) ({ cls := "OpenFloors", name := "bookings", desc := "()I" } : MethodName)) ∈ zz_BW := zz_tw 84 (by decide +kernel) (by decide +kernel)
theorem zw_85 : (Cond.instanceMethod ({ cls := "OpenFloors", name := "bookings", desc := "()I" } : MethodName)) ∈ zz_BW := zz_tw 85 (by decide +kernel) (by decide +kernel)
theorem zw_86 : (Cond.selects "OpenFloors" ({ cls := "OpenFloors", name := "bookings", desc := "()I" } : MethodName) ({ cls := "OpenFloors", name := "bookings", desc := "()I" } : MethodName)) ∈ zz_BW := zz_tw 86 (by decide +kernel) (by decide +kernel)
theorem zw_87 : (Cond.code ({ cls := "OpenFloors", name := "bookings", desc := "()I" } : MethodName) prog_1_method_8_code (1 : Nat) (Option.some FieldType.int)) ∈ zz_BW := zz_tw 87 (by decide +kernel) (by decide +kernel)
theorem zw_88 : (Cond.methodLink "OpenFloors" (52 : Nat) ({ cls := "java/util/ArrayList", name := "size", desc := "()I" } : MethodName)) ∈ zz_BW := zz_tw 88 (by decide +kernel) (by decide +kernel)
theorem zw_89 : (Cond.instanceMethod ({ cls := "java/util/ArrayList", name := "size", desc := "()I" } : MethodName)) ∈ zz_BW := zz_tw 89 (by decide +kernel) (by decide +kernel)
theorem zw_90 : (Cond.selects "java/util/ArrayList" ({ cls := "java/util/ArrayList", name := "size", desc := "()I" } : MethodName) ({ cls := "java/util/ArrayList", name := "size", desc := "()I" } : MethodName)) ∈ zz_BW := zz_tw 90 (by decide +kernel) (by decide +kernel)
theorem zw_91 : (Cond.code ({ cls := "java/util/ArrayList", name := "size", desc := "()I" } : MethodName) prog_23_method_8_code (1 : Nat) (Option.some FieldType.int)) ∈ zz_BW := zz_tw 91 (by decide +kernel) (by decide +kernel)
theorem zw_92 : (Cond.methodLink "OpenFloorsLaw" (123 : Nat) ({ cls := "OpenFloors", name := "plan", desc := "()I" } : MethodName)) ∈ zz_BW := zz_tw 92 (by decide +kernel) (by decide +kernel)
theorem zw_93 : (Cond.instanceMethod ({ cls := "OpenFloors", name := "plan", desc := "()I" } : MethodName)) ∈ zz_BW := zz_tw 93 (by decide +kernel) (by decide +kernel)
theorem zw_94 : (Cond.selects "OpenFloors" ({ cls := "OpenFloors", name := "plan", desc := "()I" } : MethodName) ({ cls := "OpenFloors", name := "plan", desc := "()I" } : MethodName)) ∈ zz_BW := zz_tw 94 (by decide +kernel) (by decide +kernel)
theorem zw_95 : (Cond.code ({ cls := "OpenFloors", name := "plan", desc := "()I" } : MethodName) prog_1_method_10_code (1 : Nat) (Option.some FieldType.int)) ∈ zz_BW := zz_tw 95 (by decide +kernel) (by decide +kernel)
theorem zw_96 : (Cond.methodLink "OpenFloors" (134 : Nat) ({ cls := "OpenFloors", name := "findPlanKey", desc := "()I" } : MethodName)) ∈ zz_BW := zz_tw 96 (by decide +kernel) (by decide +kernel)
theorem zw_98 : (Cond.instanceMethod ({ cls := "OpenFloors", name := "findPlanKey", desc := "()I" } : MethodName)) ∈ zz_BW := zz_tw 98 (by decide +kernel) (by decide +kernel)
theorem zw_99 : (Cond.code ({ cls := "OpenFloors", name := "findPlanKey", desc := "()I" } : MethodName) prog_1_method_42_code (6 : Nat) (Option.some FieldType.int)) ∈ zz_BW := zz_tw 99 (by decide +kernel) (by decide +kernel)
theorem zw_100 : (Cond.constant "OpenFloors" (137 : Nat) (2147483647 : Int32)) ∈ zz_BW := zz_tw 100 (by decide +kernel) (by decide +kernel)
theorem zw_101 : (Cond.methodLink "OpenFloors" (129 : Nat) ({ cls := "java/util/ArrayList", name := "get", desc := "(I)Ljava/lang/Object;" } : MethodName)) ∈ zz_BW := zz_tw 101 (by decide +kernel) (by decide +kernel)
theorem zw_102 : (Cond.instanceMethod ({ cls := "java/util/ArrayList", name := "get", desc := "(I)Ljava/lang/Object;" } : MethodName)) ∈ zz_BW := zz_tw 102 (by decide +kernel) (by decide +kernel)
theorem zw_103 : (Cond.selects "java/util/ArrayList" ({ cls := "java/util/ArrayList", name := "get", desc := "(I)Ljava/lang/Object;" } : MethodName) ({ cls := "java/util/ArrayList", name := "get", desc := "(I)Ljava/lang/Object;" } : MethodName)) ∈ zz_BW := zz_tw 103 (by decide +kernel) (by decide +kernel)
theorem zw_104 : (Cond.code ({ cls := "java/util/ArrayList", name := "get", desc := "(I)Ljava/lang/Object;" } : MethodName) prog_23_method_20_code (2 : Nat) (Option.some (FieldType.object "java/lang/Object"))) ∈ zz_BW := zz_tw 104 (by decide +kernel) (by decide +kernel)
theorem zw_105 : (Cond.methodLink "java/util/ArrayList" (118 : Nat) ({ cls := "java/util/Objects", name := "checkIndex", desc := "(II)I" } : MethodName)) ∈ zz_BW := zz_tw 105 (by decide +kernel) (by decide +kernel)
theorem zw_106 : (Cond.static ({ cls := "java/util/Objects", name := "checkIndex", desc := "(II)I" } : MethodName)) ∈ zz_BW := zz_tw 106 (by decide +kernel) (by decide +kernel)
theorem zw_107 : (Cond.code ({ cls := "java/util/Objects", name := "checkIndex", desc := "(II)I" } : MethodName) prog_28_method_17_code (2 : Nat) (Option.some FieldType.int)) ∈ zz_BW := zz_tw 107 (by decide +kernel) (by decide +kernel)
theorem zw_108 : (Cond.methodLink "java/util/Objects" (105 : Nat) ({ cls := "jdk/internal/util/Preconditions", name := "checkIndex", desc := "(IILjava/util/function/BiFunction;)I" } : MethodName)) ∈ zz_BW := zz_tw 108 (by decide +kernel) (by decide +kernel)
theorem zw_109 : (Cond.static ({ cls := "jdk/internal/util/Preconditions", name := "checkIndex", desc := "(IILjava/util/function/BiFunction;)I" } : MethodName)) ∈ zz_BW := zz_tw 109 (by decide +kernel) (by decide +kernel)
theorem zw_110 : (Cond.code ({ cls := "jdk/internal/util/Preconditions", name := "checkIndex", desc := "(IILjava/util/function/BiFunction;)I" } : MethodName) prog_32_method_11_code (3 : Nat) (Option.some FieldType.int)) ∈ zz_BW := zz_tw 110 (by decide +kernel) (by decide +kernel)
theorem zw_111 : (Cond.methodLink "java/util/ArrayList" (123 : Nat) ({ cls := "java/util/ArrayList", name := "elementData", desc := "(I)Ljava/lang/Object;" } : MethodName)) ∈ zz_BW := zz_tw 111 (by decide +kernel) (by decide +kernel)
theorem zw_112 : (Cond.instanceMethod ({ cls := "java/util/ArrayList", name := "elementData", desc := "(I)Ljava/lang/Object;" } : MethodName)) ∈ zz_BW := zz_tw 112 (by decide +kernel) (by decide +kernel)
theorem zw_113 : (Cond.selects "java/util/ArrayList" ({ cls := "java/util/ArrayList", name := "elementData", desc := "(I)Ljava/lang/Object;" } : MethodName) ({ cls := "java/util/ArrayList", name := "elementData", desc := "(I)Ljava/lang/Object;" } : MethodName)) ∈ zz_BW := zz_tw 113 (by decide +kernel) (by decide +kernel)
theorem zw_114 : (Cond.code ({ cls := "java/util/ArrayList", name := "elementData", desc := "(I)Ljava/lang/Object;" } : MethodName) prog_23_method_18_code (2 : Nat) (Option.some (FieldType.object "java/lang/Object"))) ∈ zz_BW := zz_tw 114 (by decide +kernel) (by decide +kernel)
theorem zw_115 : (Cond.classLink "OpenFloors" (61 : Nat) "OpenFloors$Floor") ∈ zz_BW := zz_tw 115 (by decide +kernel) (by decide +kernel)
theorem zw_116 : (Cond.methodLink "OpenFloors" (266 : Nat) ({ cls := "OpenFloors", name := "findKeysUpTo", desc := "(LOpenFloors$Floor;I)V" } : MethodName)) ∈ zz_BW := zz_tw 116 (by decide +kernel) (by decide +kernel)
theorem zw_118 : (Cond.instanceMethod ({ cls := "OpenFloors", name := "findKeysUpTo", desc := "(LOpenFloors$Floor;I)V" } : MethodName)) ∈ zz_BW := zz_tw 118 (by decide +kernel) (by decide +kernel)
theorem zw_119 : (Cond.code ({ cls := "OpenFloors", name := "findKeysUpTo", desc := "(LOpenFloors$Floor;I)V" } : MethodName) prog_1_method_43_code (5 : Nat) (Option.none : Option Jvm.ClassFile.FieldType)) ∈ zz_BW := zz_tw 119 (by decide +kernel) (by decide +kernel)
theorem zw_120 : (Cond.methodLink "OpenFloors" (276 : Nat) ({ cls := "OpenFloors$Floor", name := "forgetKeys", desc := "()V" } : MethodName)) ∈ zz_BW := zz_tw 120 (by decide +kernel) (by decide +kernel)
theorem zw_121 : (Cond.instanceMethod ({ cls := "OpenFloors$Floor", name := "forgetKeys", desc := "()V" } : MethodName)) ∈ zz_BW := zz_tw 121 (by decide +kernel) (by decide +kernel)
theorem zw_122 : (Cond.selects "OpenFloors$Floor" ({ cls := "OpenFloors$Floor", name := "forgetKeys", desc := "()V" } : MethodName) ({ cls := "OpenFloors$Floor", name := "forgetKeys", desc := "()V" } : MethodName)) ∈ zz_BW := zz_tw 122 (by decide +kernel) (by decide +kernel)
theorem zw_123 : (Cond.code ({ cls := "OpenFloors$Floor", name := "forgetKeys", desc := "()V" } : MethodName) prog_2_method_5_code (2 : Nat) (Option.none : Option Jvm.ClassFile.FieldType)) ∈ zz_BW := zz_tw 123 (by decide +kernel) (by decide +kernel)
theorem zw_124 : (Cond.constant "OpenFloors$Floor" (45 : Nat) (2147483647 : Int32)) ∈ zz_BW := zz_tw 124 (by decide +kernel) (by decide +kernel)
theorem zw_125 : (Cond.methodLink "OpenFloors" (273 : Nat) ({ cls := "OpenFloors", name := "lossBetween", desc := "(II)I" } : MethodName)) ∈ zz_BW := zz_tw 125 (by decide +kernel) (by decide +kernel)
theorem zw_127 : (Cond.instanceMethod ({ cls := "OpenFloors", name := "lossBetween", desc := "(II)I" } : MethodName)) ∈ zz_BW := zz_tw 127 (by decide +kernel) (by decide +kernel)
theorem zw_128 : (Cond.code ({ cls := "OpenFloors", name := "lossBetween", desc := "(II)I" } : MethodName) prog_1_method_45_code (6 : Nat) (Option.some FieldType.int)) ∈ zz_BW := zz_tw 128 (by decide +kernel) (by decide +kernel)
theorem zw_129 : (Cond.classLink "OpenFloors" (82 : Nat) "OpenFloors$Person") ∈ zz_BW := zz_tw 129 (by decide +kernel) (by decide +kernel)
theorem zw_130 : (Cond.methodLink "OpenFloors" (260 : Nat) ({ cls := "java/lang/Math", name := "min", desc := "(II)I" } : MethodName)) ∈ zz_BW := zz_tw 130 (by decide +kernel) (by decide +kernel)
theorem zw_131 : (Cond.static ({ cls := "java/lang/Math", name := "min", desc := "(II)I" } : MethodName)) ∈ zz_BW := zz_tw 131 (by decide +kernel) (by decide +kernel)
theorem zw_132 : (Cond.code ({ cls := "java/lang/Math", name := "min", desc := "(II)I" } : MethodName) prog_15_method_69_code (2 : Nat) (Option.some FieldType.int)) ∈ zz_BW := zz_tw 132 (by decide +kernel) (by decide +kernel)
theorem zw_133 : (Cond.methodLink "OpenFloors" (279 : Nat) ({ cls := "OpenFloors$Floor", name := "bit", desc := "()I" } : MethodName)) ∈ zz_BW := zz_tw 133 (by decide +kernel) (by decide +kernel)
theorem zw_134 : (Cond.instanceMethod ({ cls := "OpenFloors$Floor", name := "bit", desc := "()I" } : MethodName)) ∈ zz_BW := zz_tw 134 (by decide +kernel) (by decide +kernel)
theorem zw_135 : (Cond.selects "OpenFloors$Floor" ({ cls := "OpenFloors$Floor", name := "bit", desc := "()I" } : MethodName) ({ cls := "OpenFloors$Floor", name := "bit", desc := "()I" } : MethodName)) ∈ zz_BW := zz_tw 135 (by decide +kernel) (by decide +kernel)
theorem zw_136 : (Cond.code ({ cls := "OpenFloors$Floor", name := "bit", desc := "()I" } : MethodName) prog_2_method_2_code (1 : Nat) (Option.some FieldType.int)) ∈ zz_BW := zz_tw 136 (by decide +kernel) (by decide +kernel)
theorem zw_137 : (Cond.methodLink "OpenFloors" (282 : Nat) ({ cls := "OpenFloors$Floor", name := "offerKey", desc := "(II)V" } : MethodName)) ∈ zz_BW := zz_tw 137 (by decide +kernel) (by decide +kernel)
theorem zw_138 : (Cond.instanceMethod ({ cls := "OpenFloors$Floor", name := "offerKey", desc := "(II)V" } : MethodName)) ∈ zz_BW := zz_tw 138 (by decide +kernel) (by decide +kernel)
theorem zw_139 : (Cond.selects "OpenFloors$Floor" ({ cls := "OpenFloors$Floor", name := "offerKey", desc := "(II)V" } : MethodName) ({ cls := "OpenFloors$Floor", name := "offerKey", desc := "(II)V" } : MethodName)) ∈ zz_BW := zz_tw 139 (by decide +kernel) (by decide +kernel)
theorem zw_140 : (Cond.code ({ cls := "OpenFloors$Floor", name := "offerKey", desc := "(II)V" } : MethodName) prog_2_method_7_code (3 : Nat) (Option.none : Option Jvm.ClassFile.FieldType)) ∈ zz_BW := zz_tw 140 (by decide +kernel) (by decide +kernel)
theorem zw_141 : (Cond.methodLink "OpenFloors" (285 : Nat) ({ cls := "OpenFloors", name := "addFloorToSetsOf", desc := "(LOpenFloors$Floor;LOpenFloors$Floor;I)V" } : MethodName)) ∈ zz_BW := zz_tw 141 (by decide +kernel) (by decide +kernel)
theorem zw_143 : (Cond.instanceMethod ({ cls := "OpenFloors", name := "addFloorToSetsOf", desc := "(LOpenFloors$Floor;LOpenFloors$Floor;I)V" } : MethodName)) ∈ zz_BW := zz_tw 143 (by decide +kernel) (by decide +kernel)
theorem zw_144 : (Cond.code ({ cls := "OpenFloors", name := "addFloorToSetsOf", desc := "(LOpenFloors$Floor;LOpenFloors$Floor;I)V" } : MethodName) prog_1_method_44_code (8 : Nat) (Option.none : Option Jvm.ClassFile.FieldType)) ∈ zz_BW := zz_tw 144 (by decide +kernel) (by decide +kernel)
theorem zw_145 : (Cond.methodLink "OpenFloors" (270 : Nat) ({ cls := "OpenFloors$Floor", name := "keyFor", desc := "(I)I" } : MethodName)) ∈ zz_BW := zz_tw 145 (by decide +kernel) (by decide +kernel)
theorem zw_146 : (Cond.instanceMethod ({ cls := "OpenFloors$Floor", name := "keyFor", desc := "(I)I" } : MethodName)) ∈ zz_BW := zz_tw 146 (by decide +kernel) (by decide +kernel)
theorem zw_147 : (Cond.selects "OpenFloors$Floor" ({ cls := "OpenFloors$Floor", name := "keyFor", desc := "(I)I" } : MethodName) ({ cls := "OpenFloors$Floor", name := "keyFor", desc := "(I)I" } : MethodName)) ∈ zz_BW := zz_tw 147 (by decide +kernel) (by decide +kernel)
theorem zw_148 : (Cond.code ({ cls := "OpenFloors$Floor", name := "keyFor", desc := "(I)I" } : MethodName) prog_2_method_6_code (3 : Nat) (Option.some FieldType.int)) ∈ zz_BW := zz_tw 148 (by decide +kernel) (by decide +kernel)
theorem zw_149 : (Cond.methodLink "OpenFloorsLaw" (127 : Nat) ({ cls := "OpenFloors", name := "planByTrying", desc := "()I" } : MethodName)) ∈ zz_BW := zz_tw 149 (by decide +kernel) (by decide +kernel)
theorem zw_150 : (Cond.instanceMethod ({ cls := "OpenFloors", name := "planByTrying", desc := "()I" } : MethodName)) ∈ zz_BW := zz_tw 150 (by decide +kernel) (by decide +kernel)
theorem zw_151 : (Cond.selects "OpenFloors" ({ cls := "OpenFloors", name := "planByTrying", desc := "()I" } : MethodName) ({ cls := "OpenFloors", name := "planByTrying", desc := "()I" } : MethodName)) ∈ zz_BW := zz_tw 151 (by decide +kernel) (by decide +kernel)
theorem zw_152 : (Cond.code ({ cls := "OpenFloors", name := "planByTrying", desc := "()I" } : MethodName) prog_1_method_11_code (6 : Nat) (Option.some FieldType.int)) ∈ zz_BW := zz_tw 152 (by decide +kernel) (by decide +kernel)
theorem zw_153 : (Cond.methodLink "OpenFloors" (100 : Nat) ({ cls := "OpenFloors", name := "allFloors", desc := "()I" } : MethodName)) ∈ zz_BW := zz_tw 153 (by decide +kernel) (by decide +kernel)
theorem zw_155 : (Cond.instanceMethod ({ cls := "OpenFloors", name := "allFloors", desc := "()I" } : MethodName)) ∈ zz_BW := zz_tw 155 (by decide +kernel) (by decide +kernel)
theorem zw_156 : (Cond.code ({ cls := "OpenFloors", name := "allFloors", desc := "()I" } : MethodName) prog_1_method_37_code (1 : Nat) (Option.some FieldType.int)) ∈ zz_BW := zz_tw 156 (by decide +kernel) (by decide +kernel)
theorem zw_157 : (Cond.methodLink "OpenFloors" (138 : Nat) ({ cls := "OpenFloors", name := "fits", desc := "(I)Z" } : MethodName)) ∈ zz_BW := zz_tw 157 (by decide +kernel) (by decide +kernel)
theorem zw_159 : (Cond.instanceMethod ({ cls := "OpenFloors", name := "fits", desc := "(I)Z" } : MethodName)) ∈ zz_BW := zz_tw 159 (by decide +kernel) (by decide +kernel)
theorem zw_160 : (Cond.code ({ cls := "OpenFloors", name := "fits", desc := "(I)Z" } : MethodName) prog_1_method_39_code (2 : Nat) (Option.some FieldType.boolean)) ∈ zz_BW := zz_tw 160 (by decide +kernel) (by decide +kernel)
theorem zw_161 : (Cond.methodLink "OpenFloors" (103 : Nat) ({ cls := "OpenFloors", name := "seatsOfSet", desc := "(I)I" } : MethodName)) ∈ zz_BW := zz_tw 161 (by decide +kernel) (by decide +kernel)
theorem zw_163 : (Cond.instanceMethod ({ cls := "OpenFloors", name := "seatsOfSet", desc := "(I)I" } : MethodName)) ∈ zz_BW := zz_tw 163 (by decide +kernel) (by decide +kernel)
theorem zw_164 : (Cond.code ({ cls := "OpenFloors", name := "seatsOfSet", desc := "(I)I" } : MethodName) prog_1_method_38_code (5 : Nat) (Option.some FieldType.int)) ∈ zz_BW := zz_tw 164 (by decide +kernel) (by decide +kernel)
theorem zw_165 : (Cond.methodLink "OpenFloors" (250 : Nat) ({ cls := "OpenFloors$Floor", name := "isPartOf", desc := "(I)Z" } : MethodName)) ∈ zz_BW := zz_tw 165 (by decide +kernel) (by decide +kernel)
theorem zw_166 : (Cond.instanceMethod ({ cls := "OpenFloors$Floor", name := "isPartOf", desc := "(I)Z" } : MethodName)) ∈ zz_BW := zz_tw 166 (by decide +kernel) (by decide +kernel)
theorem zw_167 : (Cond.selects "OpenFloors$Floor" ({ cls := "OpenFloors$Floor", name := "isPartOf", desc := "(I)Z" } : MethodName) ({ cls := "OpenFloors$Floor", name := "isPartOf", desc := "(I)Z" } : MethodName)) ∈ zz_BW := zz_tw 167 (by decide +kernel) (by decide +kernel)
theorem zw_168 : (Cond.code ({ cls := "OpenFloors$Floor", name := "isPartOf", desc := "(I)Z" } : MethodName) prog_2_method_3_code (2 : Nat) (Option.some FieldType.boolean)) ∈ zz_BW := zz_tw 168 (by decide +kernel) (by decide +kernel)
theorem zw_169 : (Cond.methodLink "OpenFloors$Floor" (35 : Nat) ({ cls := "OpenFloors$Floor", name := "bit", desc := "()I" } : MethodName)) ∈ zz_BW := zz_tw 169 (by decide +kernel) (by decide +kernel)
theorem zw_170 : (Cond.methodLink "OpenFloors" (142 : Nat) ({ cls := "OpenFloors", name := "lossOfSet", desc := "(I)I" } : MethodName)) ∈ zz_BW := zz_tw 170 (by decide +kernel) (by decide +kernel)
theorem zw_172 : (Cond.instanceMethod ({ cls := "OpenFloors", name := "lossOfSet", desc := "(I)I" } : MethodName)) ∈ zz_BW := zz_tw 172 (by decide +kernel) (by decide +kernel)
theorem zw_173 : (Cond.code ({ cls := "OpenFloors", name := "lossOfSet", desc := "(I)I" } : MethodName) prog_1_method_40_code (5 : Nat) (Option.some FieldType.int)) ∈ zz_BW := zz_tw 173 (by decide +kernel) (by decide +kernel)
theorem zw_174 : (Cond.methodLink "OpenFloors" (253 : Nat) ({ cls := "OpenFloors", name := "distanceToSet", desc := "(LOpenFloors$Floor;I)I" } : MethodName)) ∈ zz_BW := zz_tw 174 (by decide +kernel) (by decide +kernel)
theorem zw_176 : (Cond.instanceMethod ({ cls := "OpenFloors", name := "distanceToSet", desc := "(LOpenFloors$Floor;I)I" } : MethodName)) ∈ zz_BW := zz_tw 176 (by decide +kernel) (by decide +kernel)
theorem zw_177 : (Cond.code ({ cls := "OpenFloors", name := "distanceToSet", desc := "(LOpenFloors$Floor;I)I" } : MethodName) prog_1_method_41_code (6 : Nat) (Option.some FieldType.int)) ∈ zz_BW := zz_tw 177 (by decide +kernel) (by decide +kernel)
theorem zw_178 : (Cond.methodLink "OpenFloors" (257 : Nat) ({ cls := "OpenFloors$Floor", name := "distanceTo", desc := "(LOpenFloors$Floor;)I" } : MethodName)) ∈ zz_BW := zz_tw 178 (by decide +kernel) (by decide +kernel)
theorem zw_179 : (Cond.instanceMethod ({ cls := "OpenFloors$Floor", name := "distanceTo", desc := "(LOpenFloors$Floor;)I" } : MethodName)) ∈ zz_BW := zz_tw 179 (by decide +kernel) (by decide +kernel)
theorem zw_180 : (Cond.selects "OpenFloors$Floor" ({ cls := "OpenFloors$Floor", name := "distanceTo", desc := "(LOpenFloors$Floor;)I" } : MethodName) ({ cls := "OpenFloors$Floor", name := "distanceTo", desc := "(LOpenFloors$Floor;)I" } : MethodName)) ∈ zz_BW := zz_tw 180 (by decide +kernel) (by decide +kernel)
theorem zw_181 : (Cond.code ({ cls := "OpenFloors$Floor", name := "distanceTo", desc := "(LOpenFloors$Floor;)I" } : MethodName) prog_2_method_4_code (2 : Nat) (Option.some FieldType.int)) ∈ zz_BW := zz_tw 181 (by decide +kernel) (by decide +kernel)
theorem zw_182 : (Cond.methodLink "OpenFloors$Floor" (39 : Nat) ({ cls := "java/lang/Math", name := "abs", desc := "(I)I" } : MethodName)) ∈ zz_BW := zz_tw 182 (by decide +kernel) (by decide +kernel)
theorem zw_183 : (Cond.static ({ cls := "java/lang/Math", name := "abs", desc := "(I)I" } : MethodName)) ∈ zz_BW := zz_tw 183 (by decide +kernel) (by decide +kernel)
theorem zw_184 : (Cond.code ({ cls := "java/lang/Math", name := "abs", desc := "(I)I" } : MethodName) prog_15_method_59_code (1 : Nat) (Option.some FieldType.int)) ∈ zz_BW := zz_tw 184 (by decide +kernel) (by decide +kernel)
theorem zw_185 : (Cond.methodLink "OpenFloorsLaw" (131 : Nat) ({ cls := "OpenFloors", name := "planLoss", desc := "()I" } : MethodName)) ∈ zz_BW := zz_tw 185 (by decide +kernel) (by decide +kernel)
theorem zw_186 : (Cond.instanceMethod ({ cls := "OpenFloors", name := "planLoss", desc := "()I" } : MethodName)) ∈ zz_BW := zz_tw 186 (by decide +kernel) (by decide +kernel)
theorem zw_187 : (Cond.selects "OpenFloors" ({ cls := "OpenFloors", name := "planLoss", desc := "()I" } : MethodName) ({ cls := "OpenFloors", name := "planLoss", desc := "()I" } : MethodName)) ∈ zz_BW := zz_tw 187 (by decide +kernel) (by decide +kernel)
theorem zw_188 : (Cond.code ({ cls := "OpenFloors", name := "planLoss", desc := "()I" } : MethodName) prog_1_method_12_code (1 : Nat) (Option.some FieldType.int)) ∈ zz_BW := zz_tw 188 (by decide +kernel) (by decide +kernel)
theorem zw_189 : (Cond.methodLink "OpenFloorsLaw" (142 : Nat) ({ cls := "OpenFloors", name := "day", desc := "()I" } : MethodName)) ∈ zz_BW := zz_tw 189 (by decide +kernel) (by decide +kernel)
theorem zw_190 : (Cond.instanceMethod ({ cls := "OpenFloors", name := "day", desc := "()I" } : MethodName)) ∈ zz_BW := zz_tw 190 (by decide +kernel) (by decide +kernel)
theorem zw_191 : (Cond.selects "OpenFloors" ({ cls := "OpenFloors", name := "day", desc := "()I" } : MethodName) ({ cls := "OpenFloors", name := "day", desc := "()I" } : MethodName)) ∈ zz_BW := zz_tw 191 (by decide +kernel) (by decide +kernel)
theorem zw_192 : (Cond.code ({ cls := "OpenFloors", name := "day", desc := "()I" } : MethodName) prog_1_method_15_code (1 : Nat) (Option.some FieldType.int)) ∈ zz_BW := zz_tw 192 (by decide +kernel) (by decide +kernel)
theorem zw_193 : (Cond.methodLink "OpenFloorsLaw" (173 : Nat) ({ cls := "OpenFloors", name := "energy", desc := "()J" } : MethodName)) ∈ zz_BW := zz_tw 193 (by decide +kernel) (by decide +kernel)
theorem zw_194 : (Cond.instanceMethod ({ cls := "OpenFloors", name := "energy", desc := "()J" } : MethodName)) ∈ zz_BW := zz_tw 194 (by decide +kernel) (by decide +kernel)
theorem zw_195 : (Cond.selects "OpenFloors" ({ cls := "OpenFloors", name := "energy", desc := "()J" } : MethodName) ({ cls := "OpenFloors", name := "energy", desc := "()J" } : MethodName)) ∈ zz_BW := zz_tw 195 (by decide +kernel) (by decide +kernel)
theorem zw_196 : (Cond.code ({ cls := "OpenFloors", name := "energy", desc := "()J" } : MethodName) prog_1_method_25_code (1 : Nat) (Option.some FieldType.long)) ∈ zz_BW := zz_tw 196 (by decide +kernel) (by decide +kernel)
theorem zw_197 : (Cond.methodLink "OpenFloorsLaw" (178 : Nat) ({ cls := "OpenFloors", name := "discomfort", desc := "()J" } : MethodName)) ∈ zz_BW := zz_tw 197 (by decide +kernel) (by decide +kernel)
theorem zw_198 : (Cond.instanceMethod ({ cls := "OpenFloors", name := "discomfort", desc := "()J" } : MethodName)) ∈ zz_BW := zz_tw 198 (by decide +kernel) (by decide +kernel)
theorem zw_199 : (Cond.selects "OpenFloors" ({ cls := "OpenFloors", name := "discomfort", desc := "()J" } : MethodName) ({ cls := "OpenFloors", name := "discomfort", desc := "()J" } : MethodName)) ∈ zz_BW := zz_tw 199 (by decide +kernel) (by decide +kernel)
theorem zw_200 : (Cond.code ({ cls := "OpenFloors", name := "discomfort", desc := "()J" } : MethodName) prog_1_method_26_code (1 : Nat) (Option.some FieldType.long)) ∈ zz_BW := zz_tw 200 (by decide +kernel) (by decide +kernel)
theorem zw_201 : (Cond.methodLink "OpenFloorsLaw" (182 : Nat) ({ cls := "OpenFloors", name := "cleaning", desc := "()J" } : MethodName)) ∈ zz_BW := zz_tw 201 (by decide +kernel) (by decide +kernel)
theorem zw_202 : (Cond.instanceMethod ({ cls := "OpenFloors", name := "cleaning", desc := "()J" } : MethodName)) ∈ zz_BW := zz_tw 202 (by decide +kernel) (by decide +kernel)
theorem zw_203 : (Cond.selects "OpenFloors" ({ cls := "OpenFloors", name := "cleaning", desc := "()J" } : MethodName) ({ cls := "OpenFloors", name := "cleaning", desc := "()J" } : MethodName)) ∈ zz_BW := zz_tw 203 (by decide +kernel) (by decide +kernel)
theorem zw_204 : (Cond.code ({ cls := "OpenFloors", name := "cleaning", desc := "()J" } : MethodName) prog_1_method_27_code (1 : Nat) (Option.some FieldType.long)) ∈ zz_BW := zz_tw 204 (by decide +kernel) (by decide +kernel)
theorem zw_205 : (Cond.methodLink "OpenFloorsLaw" (186 : Nat) ({ cls := "OpenFloors", name := "noShows", desc := "()I" } : MethodName)) ∈ zz_BW := zz_tw 205 (by decide +kernel) (by decide +kernel)
theorem zw_206 : (Cond.instanceMethod ({ cls := "OpenFloors", name := "noShows", desc := "()I" } : MethodName)) ∈ zz_BW := zz_tw 206 (by decide +kernel) (by decide +kernel)
theorem zw_207 : (Cond.selects "OpenFloors" ({ cls := "OpenFloors", name := "noShows", desc := "()I" } : MethodName) ({ cls := "OpenFloors", name := "noShows", desc := "()I" } : MethodName)) ∈ zz_BW := zz_tw 207 (by decide +kernel) (by decide +kernel)
theorem zw_208 : (Cond.code ({ cls := "OpenFloors", name := "noShows", desc := "()I" } : MethodName) prog_1_method_28_code (1 : Nat) (Option.some FieldType.int)) ∈ zz_BW := zz_tw 208 (by decide +kernel) (by decide +kernel)
theorem zw_209 : (Cond.methodLink "OpenFloorsLaw" (197 : Nat) ({ cls := "OpenFloors", name := "isSound", desc := "()Z" } : MethodName)) ∈ zz_BW := zz_tw 209 (by decide +kernel) (by decide +kernel)
theorem zw_210 : (Cond.instanceMethod ({ cls := "OpenFloors", name := "isSound", desc := "()Z" } : MethodName)) ∈ zz_BW := zz_tw 210 (by decide +kernel) (by decide +kernel)
theorem zw_211 : (Cond.selects "OpenFloors" ({ cls := "OpenFloors", name := "isSound", desc := "()Z" } : MethodName) ({ cls := "OpenFloors", name := "isSound", desc := "()Z" } : MethodName)) ∈ zz_BW := zz_tw 211 (by decide +kernel) (by decide +kernel)
theorem zw_212 : (Cond.code ({ cls := "OpenFloors", name := "isSound", desc := "()Z" } : MethodName) prog_1_method_31_code (1 : Nat) (Option.some FieldType.boolean)) ∈ zz_BW := zz_tw 212 (by decide +kernel) (by decide +kernel)
theorem zw_213 : (Cond.methodLink "OpenFloors" (163 : Nat) ({ cls := "OpenFloors", name := "plan", desc := "()I" } : MethodName)) ∈ zz_BW := zz_tw 213 (by decide +kernel) (by decide +kernel)
theorem zw_214 : (Cond.methodLink "OpenFloors" (230 : Nat) ({ cls := "OpenFloors", name := "planByTrying", desc := "()I" } : MethodName)) ∈ zz_BW := zz_tw 214 (by decide +kernel) (by decide +kernel)
theorem zw_215 : (Cond.methodLink "OpenFloors" (233 : Nat) ({ cls := "OpenFloors", name := "peopleAreSound", desc := "()Z" } : MethodName)) ∈ zz_BW := zz_tw 215 (by decide +kernel) (by decide +kernel)
theorem zw_217 : (Cond.instanceMethod ({ cls := "OpenFloors", name := "peopleAreSound", desc := "()Z" } : MethodName)) ∈ zz_BW := zz_tw 217 (by decide +kernel) (by decide +kernel)
theorem zw_218 : (Cond.code ({ cls := "OpenFloors", name := "peopleAreSound", desc := "()Z" } : MethodName) prog_1_method_61_code (5 : Nat) (Option.some FieldType.boolean)) ∈ zz_BW := zz_tw 218 (by decide +kernel) (by decide +kernel)
theorem zw_219 : (Cond.methodLink "OpenFloors" (236 : Nat) ({ cls := "OpenFloors", name := "floorsAreSound", desc := "()Z" } : MethodName)) ∈ zz_BW := zz_tw 219 (by decide +kernel) (by decide +kernel)
theorem zw_221 : (Cond.instanceMethod ({ cls := "OpenFloors", name := "floorsAreSound", desc := "()Z" } : MethodName)) ∈ zz_BW := zz_tw 221 (by decide +kernel) (by decide +kernel)
theorem zw_222 : (Cond.code ({ cls := "OpenFloors", name := "floorsAreSound", desc := "()Z" } : MethodName) prog_1_method_62_code (3 : Nat) (Option.some FieldType.boolean)) ∈ zz_BW := zz_tw 222 (by decide +kernel) (by decide +kernel)
theorem zw_223 : (Cond.methodLink "OpenFloors" (222 : Nat) ({ cls := "OpenFloors", name := "countSeatsGivenOn", desc := "(LOpenFloors$Floor;)I" } : MethodName)) ∈ zz_BW := zz_tw 223 (by decide +kernel) (by decide +kernel)
theorem zw_225 : (Cond.instanceMethod ({ cls := "OpenFloors", name := "countSeatsGivenOn", desc := "(LOpenFloors$Floor;)I" } : MethodName)) ∈ zz_BW := zz_tw 225 (by decide +kernel) (by decide +kernel)
theorem zw_226 : (Cond.code ({ cls := "OpenFloors", name := "countSeatsGivenOn", desc := "(LOpenFloors$Floor;)I" } : MethodName) prog_1_method_57_code (4 : Nat) (Option.some FieldType.int)) ∈ zz_BW := zz_tw 226 (by decide +kernel) (by decide +kernel)
theorem zw_227 : (Cond.methodLink "OpenFloorsLaw" (91 : Nat) ({ cls := "OpenFloorsLaw", name := "addFloor", desc := "(LOpenFloors;II[J)I" } : MethodName)) ∈ zz_BW := zz_tw 227 (by decide +kernel) (by decide +kernel)
theorem zw_228 : (Cond.static ({ cls := "OpenFloorsLaw", name := "addFloor", desc := "(LOpenFloors;II[J)I" } : MethodName)) ∈ zz_BW := zz_tw 228 (by decide +kernel) (by decide +kernel)
theorem zw_229 : (Cond.codeWith ({ cls := "OpenFloorsLaw", name := "addFloor", desc := "(LOpenFloors;II[J)I" } : MethodName) method_3_code (5 : Nat) (Option.some FieldType.int) [((0 : Nat), (10 : Nat), (13 : Nat), (13 : Nat)), ((0 : Nat), (10 : Nat), (17 : Nat), (15 : Nat))]) ∈ zz_BW := zz_tw 229 (by decide +kernel) (by decide +kernel)
theorem zw_230 : (Cond.classLink "OpenFloorsLaw" (13 : Nat) "java/lang/IllegalArgumentException") ∈ zz_BW := zz_tw 230 (by decide +kernel) (by decide +kernel)
theorem zw_231 : (Cond.classLink "OpenFloorsLaw" (15 : Nat) "java/lang/IllegalStateException") ∈ zz_BW := zz_tw 231 (by decide +kernel) (by decide +kernel)
theorem zw_232 : (Cond.methodLink "OpenFloorsLaw" (7 : Nat) ({ cls := "OpenFloors", name := "addFloor", desc := "(II)I" } : MethodName)) ∈ zz_BW := zz_tw 232 (by decide +kernel) (by decide +kernel)
theorem zw_233 : (Cond.instanceMethod ({ cls := "OpenFloors", name := "addFloor", desc := "(II)I" } : MethodName)) ∈ zz_BW := zz_tw 233 (by decide +kernel) (by decide +kernel)
theorem zw_234 : (Cond.selects "OpenFloors" ({ cls := "OpenFloors", name := "addFloor", desc := "(II)I" } : MethodName) ({ cls := "OpenFloors", name := "addFloor", desc := "(II)I" } : MethodName)) ∈ zz_BW := zz_tw 234 (by decide +kernel) (by decide +kernel)
theorem zw_235 : (Cond.code ({ cls := "OpenFloors", name := "addFloor", desc := "(II)I" } : MethodName) prog_1_method_2_code (4 : Nat) (Option.some FieldType.int)) ∈ zz_BW := zz_tw 235 (by decide +kernel) (by decide +kernel)
theorem zw_236 : (Cond.classLink "OpenFloors" (41 : Nat) "java/lang/IllegalArgumentException") ∈ zz_BW := zz_tw 236 (by decide +kernel) (by decide +kernel)
theorem zw_237 : (Cond.instantiable "java/lang/IllegalArgumentException" (6 : Nat)) ∈ zz_BW := zz_tw 237 (by decide +kernel) (by decide +kernel)
theorem zw_245 : (Cond.selects "java/lang/IllegalArgumentException" ({ cls := "java/lang/Throwable", name := "fillInStackTrace", desc := "(I)Ljava/lang/Throwable;" } : MethodName) ({ cls := "java/lang/Throwable", name := "fillInStackTrace", desc := "(I)Ljava/lang/Throwable;" } : MethodName)) ∈ zz_BW := zz_tw 245 (by decide +kernel) (by decide +kernel)
theorem zw_246 : (Cond.selects "java/lang/IllegalArgumentException" ({ cls := "java/lang/Throwable", name := "fillInStackTrace", desc := "()Ljava/lang/Throwable;" } : MethodName) ({ cls := "java/lang/Throwable", name := "fillInStackTrace", desc := "()Ljava/lang/Throwable;" } : MethodName)) ∈ zz_BW := zz_tw 246 (by decide +kernel) (by decide +kernel)
theorem zw_247 : (Cond.lays "java/lang/IllegalArgumentException" "java/lang/Throwable" "cause" "Ljava/lang/Throwable;") ∈ zz_BW := zz_tw 247 (by decide +kernel) (by decide +kernel)
theorem zw_248 : (Cond.lays "java/lang/Throwable" "java/lang/Throwable" "cause" "Ljava/lang/Throwable;") ∈ zz_BW := zz_tw 248 (by decide +kernel) (by decide +kernel)
theorem zw_249 : (Cond.lays "java/lang/IllegalArgumentException" "java/lang/Throwable" "stackTrace" "[Ljava/lang/StackTraceElement;") ∈ zz_BW := zz_tw 249 (by decide +kernel) (by decide +kernel)
theorem zw_250 : (Cond.lays "java/lang/Throwable" "java/lang/Throwable" "stackTrace" "[Ljava/lang/StackTraceElement;") ∈ zz_BW := zz_tw 250 (by decide +kernel) (by decide +kernel)
theorem zw_251 : (Cond.lays "java/lang/IllegalArgumentException" "java/lang/Throwable" "suppressedExceptions" "Ljava/util/List;") ∈ zz_BW := zz_tw 251 (by decide +kernel) (by decide +kernel)
theorem zw_252 : (Cond.lays "java/lang/Throwable" "java/lang/Throwable" "suppressedExceptions" "Ljava/util/List;") ∈ zz_BW := zz_tw 252 (by decide +kernel) (by decide +kernel)
theorem zw_253 : (Cond.lays "java/lang/IllegalArgumentException" "java/lang/Throwable" "detailMessage" "Ljava/lang/String;") ∈ zz_BW := zz_tw 253 (by decide +kernel) (by decide +kernel)
theorem zw_254 : (Cond.lays "java/lang/Throwable" "java/lang/Throwable" "detailMessage" "Ljava/lang/String;") ∈ zz_BW := zz_tw 254 (by decide +kernel) (by decide +kernel)
theorem zw_255 : (Cond.lays "java/lang/IllegalArgumentException" "java/lang/Throwable" "backtrace" "Ljava/lang/Object;") ∈ zz_BW := zz_tw 255 (by decide +kernel) (by decide +kernel)
theorem zw_256 : (Cond.lays "java/lang/Throwable" "java/lang/Throwable" "backtrace" "Ljava/lang/Object;") ∈ zz_BW := zz_tw 256 (by decide +kernel) (by decide +kernel)
theorem zw_257 : (Cond.fieldLink "java/lang/Throwable" (198 : Nat) "java/lang/Throwable" "backtrace" "Ljava/lang/Object;") ∈ zz_BW := zz_tw 257 (by decide +kernel) (by decide +kernel)
theorem zw_258 : (Cond.superclass "java/lang/Throwable" "java/lang/Object") ∈ zz_BW := zz_tw 258 (by decide +kernel) (by decide +kernel)
theorem zw_259 : (Cond.instanceMethod ({ cls := "java/lang/Throwable", name := "<init>", desc := "()V" } : MethodName)) ∈ zz_BW := zz_tw 259 (by decide +kernel) (by decide +kernel)
theorem zw_260 : (Cond.code ({ cls := "java/lang/Throwable", name := "<init>", desc := "()V" } : MethodName) prog_19_method_1_code (1 : Nat) (Option.none : Option Jvm.ClassFile.FieldType)) ∈ zz_BW := zz_tw 260 (by decide +kernel) (by decide +kernel)
theorem zw_261 : (Cond.methodLink "java/lang/Throwable" (1 : Nat) ({ cls := "java/lang/Object", name := "<init>", desc := "()V" } : MethodName)) ∈ zz_BW := zz_tw 261 (by decide +kernel) (by decide +kernel)
theorem zw_262 : (Cond.fieldLink "java/lang/Throwable" (13 : Nat) "java/lang/Throwable" "UNASSIGNED_STACK" "[Ljava/lang/StackTraceElement;") ∈ zz_BW := zz_tw 262 (by decide +kernel) (by decide +kernel)
theorem zw_264 : (Cond.fieldLink "java/lang/Throwable" (20 : Nat) "java/lang/Throwable" "SUPPRESSED_SENTINEL" "Ljava/util/List;") ∈ zz_BW := zz_tw 264 (by decide +kernel) (by decide +kernel)
theorem zw_266 : (Cond.methodLink "java/lang/Throwable" (27 : Nat) ({ cls := "java/lang/Throwable", name := "fillInStackTrace", desc := "()Ljava/lang/Throwable;" } : MethodName)) ∈ zz_BW := zz_tw 266 (by decide +kernel) (by decide +kernel)
theorem zw_267 : (Cond.instanceMethod ({ cls := "java/lang/Throwable", name := "fillInStackTrace", desc := "()Ljava/lang/Throwable;" } : MethodName)) ∈ zz_BW := zz_tw 267 (by decide +kernel) (by decide +kernel)
theorem zw_268 : (Cond.sameMethod "java/lang/Throwable" "java/lang/Throwable" "fillInStackTrace" "()Ljava/lang/Throwable;") ∈ zz_BW := zz_tw 268 (by decide +kernel) (by decide +kernel)
theorem zw_269 : (Cond.selects "java/lang/ArithmeticException" ({ cls := "java/lang/Throwable", name := "fillInStackTrace", desc := "()Ljava/lang/Throwable;" } : MethodName) ({ cls := "java/lang/Throwable", name := "fillInStackTrace", desc := "()Ljava/lang/Throwable;" } : MethodName)) ∈ zz_BW := zz_tw 269 (by decide +kernel) (by decide +kernel)
theorem zw_270 : (Cond.selects "java/lang/ArrayIndexOutOfBoundsException" ({ cls := "java/lang/Throwable", name := "fillInStackTrace", desc := "()Ljava/lang/Throwable;" } : MethodName) ({ cls := "java/lang/Throwable", name := "fillInStackTrace", desc := "()Ljava/lang/Throwable;" } : MethodName)) ∈ zz_BW := zz_tw 270 (by decide +kernel) (by decide +kernel)
theorem zw_271 : (Cond.selects "java/lang/IllegalStateException" ({ cls := "java/lang/Throwable", name := "fillInStackTrace", desc := "()Ljava/lang/Throwable;" } : MethodName) ({ cls := "java/lang/Throwable", name := "fillInStackTrace", desc := "()Ljava/lang/Throwable;" } : MethodName)) ∈ zz_BW := zz_tw 271 (by decide +kernel) (by decide +kernel)
theorem zw_272 : (Cond.selects "java/lang/IndexOutOfBoundsException" ({ cls := "java/lang/Throwable", name := "fillInStackTrace", desc := "()Ljava/lang/Throwable;" } : MethodName) ({ cls := "java/lang/Throwable", name := "fillInStackTrace", desc := "()Ljava/lang/Throwable;" } : MethodName)) ∈ zz_BW := zz_tw 272 (by decide +kernel) (by decide +kernel)
theorem zw_273 : (Cond.selects "java/lang/UnsupportedOperationException" ({ cls := "java/lang/Throwable", name := "fillInStackTrace", desc := "()Ljava/lang/Throwable;" } : MethodName) ({ cls := "java/lang/Throwable", name := "fillInStackTrace", desc := "()Ljava/lang/Throwable;" } : MethodName)) ∈ zz_BW := zz_tw 273 (by decide +kernel) (by decide +kernel)
theorem zw_274 : (Cond.selects "java/util/NoSuchElementException" ({ cls := "java/lang/Throwable", name := "fillInStackTrace", desc := "()Ljava/lang/Throwable;" } : MethodName) ({ cls := "java/lang/Throwable", name := "fillInStackTrace", desc := "()Ljava/lang/Throwable;" } : MethodName)) ∈ zz_BW := zz_tw 274 (by decide +kernel) (by decide +kernel)
theorem zw_275 : (Cond.codeSync ({ cls := "java/lang/Throwable", name := "fillInStackTrace", desc := "()Ljava/lang/Throwable;" } : MethodName) prog_19_method_18_code (1 : Nat) (Option.some (FieldType.object "java/lang/Throwable"))) ∈ zz_BW := zz_tw 275 (by decide +kernel) (by decide +kernel)
theorem zw_276 : (Cond.methodLink "java/lang/Throwable" (202 : Nat) ({ cls := "java/lang/Throwable", name := "fillInStackTrace", desc := "(I)Ljava/lang/Throwable;" } : MethodName)) ∈ zz_BW := zz_tw 276 (by decide +kernel) (by decide +kernel)
theorem zw_278 : (Cond.instanceMethod ({ cls := "java/lang/Throwable", name := "fillInStackTrace", desc := "(I)Ljava/lang/Throwable;" } : MethodName)) ∈ zz_BW := zz_tw 278 (by decide +kernel) (by decide +kernel)
theorem zw_279 : (Cond.instantiable "java/lang/Throwable" (6 : Nat)) ∈ zz_BW := zz_tw 279 (by decide +kernel) (by decide +kernel)
theorem zw_280 : (Cond.native ({ cls := "java/lang/Throwable", name := "fillInStackTrace", desc := "(I)Ljava/lang/Throwable;" } : MethodName)) ∈ zz_BW := zz_tw 280 (by decide +kernel) (by decide +kernel)
theorem zw_282 : (Cond.methodLink "OpenFloors" (45 : Nat) ({ cls := "java/lang/IllegalArgumentException", name := "<init>", desc := "(Ljava/lang/String;)V" } : MethodName)) ∈ zz_BW := zz_tw 282 (by decide +kernel) (by decide +kernel)
theorem zw_283 : (Cond.instanceMethod ({ cls := "java/lang/IllegalArgumentException", name := "<init>", desc := "(Ljava/lang/String;)V" } : MethodName)) ∈ zz_BW := zz_tw 283 (by decide +kernel) (by decide +kernel)
theorem zw_284 : (Cond.code ({ cls := "java/lang/IllegalArgumentException", name := "<init>", desc := "(Ljava/lang/String;)V" } : MethodName) prog_11_method_2_code (2 : Nat) (Option.none : Option Jvm.ClassFile.FieldType)) ∈ zz_BW := zz_tw 284 (by decide +kernel) (by decide +kernel)
theorem zw_285 : (Cond.methodLink "java/lang/IllegalArgumentException" (7 : Nat) ({ cls := "java/lang/RuntimeException", name := "<init>", desc := "(Ljava/lang/String;)V" } : MethodName)) ∈ zz_BW := zz_tw 285 (by decide +kernel) (by decide +kernel)
theorem zw_286 : (Cond.instanceMethod ({ cls := "java/lang/RuntimeException", name := "<init>", desc := "(Ljava/lang/String;)V" } : MethodName)) ∈ zz_BW := zz_tw 286 (by decide +kernel) (by decide +kernel)
theorem zw_287 : (Cond.code ({ cls := "java/lang/RuntimeException", name := "<init>", desc := "(Ljava/lang/String;)V" } : MethodName) prog_16_method_2_code (2 : Nat) (Option.none : Option Jvm.ClassFile.FieldType)) ∈ zz_BW := zz_tw 287 (by decide +kernel) (by decide +kernel)
theorem zw_288 : (Cond.methodLink "java/lang/RuntimeException" (7 : Nat) ({ cls := "java/lang/Exception", name := "<init>", desc := "(Ljava/lang/String;)V" } : MethodName)) ∈ zz_BW := zz_tw 288 (by decide +kernel) (by decide +kernel)
theorem zw_289 : (Cond.instanceMethod ({ cls := "java/lang/Exception", name := "<init>", desc := "(Ljava/lang/String;)V" } : MethodName)) ∈ zz_BW := zz_tw 289 (by decide +kernel) (by decide +kernel)
theorem zw_290 : (Cond.code ({ cls := "java/lang/Exception", name := "<init>", desc := "(Ljava/lang/String;)V" } : MethodName) prog_10_method_2_code (2 : Nat) (Option.none : Option Jvm.ClassFile.FieldType)) ∈ zz_BW := zz_tw 290 (by decide +kernel) (by decide +kernel)
theorem zw_291 : (Cond.methodLink "java/lang/Exception" (7 : Nat) ({ cls := "java/lang/Throwable", name := "<init>", desc := "(Ljava/lang/String;)V" } : MethodName)) ∈ zz_BW := zz_tw 291 (by decide +kernel) (by decide +kernel)
theorem zw_292 : (Cond.instanceMethod ({ cls := "java/lang/Throwable", name := "<init>", desc := "(Ljava/lang/String;)V" } : MethodName)) ∈ zz_BW := zz_tw 292 (by decide +kernel) (by decide +kernel)
theorem zw_293 : (Cond.code ({ cls := "java/lang/Throwable", name := "<init>", desc := "(Ljava/lang/String;)V" } : MethodName) prog_19_method_2_code (2 : Nat) (Option.none : Option Jvm.ClassFile.FieldType)) ∈ zz_BW := zz_tw 293 (by decide +kernel) (by decide +kernel)
theorem zw_294 : (Cond.fieldLink "java/lang/Throwable" (198 : Nat) "java/lang/Throwable" "backtrace" "Ljava/lang/Object;") ∈ zz_BW := zz_tw 294 (by decide +kernel) (by decide +kernel)
theorem zw_295 : (Cond.fieldLink "java/lang/Throwable" (31 : Nat) "java/lang/Throwable" "detailMessage" "Ljava/lang/String;") ∈ zz_BW := zz_tw 295 (by decide +kernel) (by decide +kernel)
theorem zw_296 : (Cond.fieldLink "java/lang/Throwable" (7 : Nat) "java/lang/Throwable" "cause" "Ljava/lang/Throwable;") ∈ zz_BW := zz_tw 296 (by decide +kernel) (by decide +kernel)
theorem zw_297 : (Cond.fieldLink "java/lang/Throwable" (17 : Nat) "java/lang/Throwable" "stackTrace" "[Ljava/lang/StackTraceElement;") ∈ zz_BW := zz_tw 297 (by decide +kernel) (by decide +kernel)
theorem zw_298 : (Cond.fieldLink "java/lang/Throwable" (24 : Nat) "java/lang/Throwable" "suppressedExceptions" "Ljava/util/List;") ∈ zz_BW := zz_tw 298 (by decide +kernel) (by decide +kernel)
theorem zw_299 : (Cond.soleField "java/lang/Throwable" "backtrace") ∈ zz_BW := zz_tw 299 (by decide +kernel) (by decide +kernel)
theorem zw_300 : (Cond.soleField "java/lang/Throwable" "detailMessage") ∈ zz_BW := zz_tw 300 (by decide +kernel) (by decide +kernel)
theorem zw_301 : (Cond.soleField "java/lang/Throwable" "cause") ∈ zz_BW := zz_tw 301 (by decide +kernel) (by decide +kernel)
theorem zw_302 : (Cond.soleField "java/lang/Throwable" "stackTrace") ∈ zz_BW := zz_tw 302 (by decide +kernel) (by decide +kernel)
theorem zw_303 : (Cond.lays "java/lang/IllegalArgumentException" "java/lang/Throwable" "depth" "I") ∈ zz_BW := zz_tw 303 (by decide +kernel) (by decide +kernel)
theorem zw_304 : (Cond.soleField "java/lang/Throwable" "depth") ∈ zz_BW := zz_tw 304 (by decide +kernel) (by decide +kernel)
theorem zw_305 : (Cond.soleField "java/lang/Throwable" "suppressedExceptions") ∈ zz_BW := zz_tw 305 (by decide +kernel) (by decide +kernel)
theorem zw_306 : (Cond.superclass "java/lang/IllegalArgumentException" "java/lang/RuntimeException") ∈ zz_BW := zz_tw 306 (by decide +kernel) (by decide +kernel)
theorem zw_307 : (Cond.arrayClass FieldType.byte) ∈ zz_BW := zz_tw 307 (by decide +kernel) (by decide +kernel)
theorem zw_308 : (Cond.methodLink "OpenFloors" (48 : Nat) ({ cls := "OpenFloors", name := "checkCost", desc := "(I)V" } : MethodName)) ∈ zz_BW := zz_tw 308 (by decide +kernel) (by decide +kernel)
theorem zw_309 : (Cond.static ({ cls := "OpenFloors", name := "checkCost", desc := "(I)V" } : MethodName)) ∈ zz_BW := zz_tw 309 (by decide +kernel) (by decide +kernel)
theorem zw_310 : (Cond.code ({ cls := "OpenFloors", name := "checkCost", desc := "(I)V" } : MethodName) prog_1_method_34_code (1 : Nat) (Option.none : Option Jvm.ClassFile.FieldType)) ∈ zz_BW := zz_tw 310 (by decide +kernel) (by decide +kernel)
theorem zw_312 : (Cond.classLink "OpenFloors" (56 : Nat) "java/lang/IllegalStateException") ∈ zz_BW := zz_tw 312 (by decide +kernel) (by decide +kernel)
theorem zw_313 : (Cond.instantiable "java/lang/IllegalStateException" (6 : Nat)) ∈ zz_BW := zz_tw 313 (by decide +kernel) (by decide +kernel)
theorem zw_315 : (Cond.selects "java/lang/IllegalStateException" ({ cls := "java/lang/Throwable", name := "fillInStackTrace", desc := "(I)Ljava/lang/Throwable;" } : MethodName) ({ cls := "java/lang/Throwable", name := "fillInStackTrace", desc := "(I)Ljava/lang/Throwable;" } : MethodName)) ∈ zz_BW := zz_tw 315 (by decide +kernel) (by decide +kernel)
theorem zw_316 : (Cond.lays "java/lang/IllegalStateException" "java/lang/Throwable" "cause" "Ljava/lang/Throwable;") ∈ zz_BW := zz_tw 316 (by decide +kernel) (by decide +kernel)
theorem zw_317 : (Cond.lays "java/lang/IllegalStateException" "java/lang/Throwable" "stackTrace" "[Ljava/lang/StackTraceElement;") ∈ zz_BW := zz_tw 317 (by decide +kernel) (by decide +kernel)
theorem zw_318 : (Cond.lays "java/lang/IllegalStateException" "java/lang/Throwable" "suppressedExceptions" "Ljava/util/List;") ∈ zz_BW := zz_tw 318 (by decide +kernel) (by decide +kernel)
theorem zw_319 : (Cond.lays "java/lang/IllegalStateException" "java/lang/Throwable" "detailMessage" "Ljava/lang/String;") ∈ zz_BW := zz_tw 319 (by decide +kernel) (by decide +kernel)
theorem zw_320 : (Cond.lays "java/lang/IllegalStateException" "java/lang/Throwable" "backtrace" "Ljava/lang/Object;") ∈ zz_BW := zz_tw 320 (by decide +kernel) (by decide +kernel)
theorem zw_322 : (Cond.methodLink "OpenFloors" (60 : Nat) ({ cls := "java/lang/IllegalStateException", name := "<init>", desc := "(Ljava/lang/String;)V" } : MethodName)) ∈ zz_BW := zz_tw 322 (by decide +kernel) (by decide +kernel)
theorem zw_323 : (Cond.instanceMethod ({ cls := "java/lang/IllegalStateException", name := "<init>", desc := "(Ljava/lang/String;)V" } : MethodName)) ∈ zz_BW := zz_tw 323 (by decide +kernel) (by decide +kernel)
theorem zw_324 : (Cond.code ({ cls := "java/lang/IllegalStateException", name := "<init>", desc := "(Ljava/lang/String;)V" } : MethodName) prog_12_method_2_code (2 : Nat) (Option.none : Option Jvm.ClassFile.FieldType)) ∈ zz_BW := zz_tw 324 (by decide +kernel) (by decide +kernel)
theorem zw_325 : (Cond.methodLink "java/lang/IllegalStateException" (7 : Nat) ({ cls := "java/lang/RuntimeException", name := "<init>", desc := "(Ljava/lang/String;)V" } : MethodName)) ∈ zz_BW := zz_tw 325 (by decide +kernel) (by decide +kernel)
theorem zw_326 : (Cond.lays "java/lang/IllegalStateException" "java/lang/Throwable" "depth" "I") ∈ zz_BW := zz_tw 326 (by decide +kernel) (by decide +kernel)
theorem zw_327 : (Cond.superclass "java/lang/IllegalStateException" "java/lang/RuntimeException") ∈ zz_BW := zz_tw 327 (by decide +kernel) (by decide +kernel)
theorem zw_328 : (Cond.instantiable "OpenFloors$Floor" (7 : Nat)) ∈ zz_BW := zz_tw 328 (by decide +kernel) (by decide +kernel)
theorem zw_329 : (Cond.methodLink "OpenFloors" (63 : Nat) ({ cls := "OpenFloors$Floor", name := "<init>", desc := "(III)V" } : MethodName)) ∈ zz_BW := zz_tw 329 (by decide +kernel) (by decide +kernel)
theorem zw_330 : (Cond.instanceMethod ({ cls := "OpenFloors$Floor", name := "<init>", desc := "(III)V" } : MethodName)) ∈ zz_BW := zz_tw 330 (by decide +kernel) (by decide +kernel)
theorem zw_331 : (Cond.code ({ cls := "OpenFloors$Floor", name := "<init>", desc := "(III)V" } : MethodName) prog_2_method_1_code (4 : Nat) (Option.none : Option Jvm.ClassFile.FieldType)) ∈ zz_BW := zz_tw 331 (by decide +kernel) (by decide +kernel)
theorem zw_332 : (Cond.methodLink "OpenFloors$Floor" (3 : Nat) ({ cls := "java/lang/Object", name := "<init>", desc := "()V" } : MethodName)) ∈ zz_BW := zz_tw 332 (by decide +kernel) (by decide +kernel)
theorem zw_333 : (Cond.fieldLink "OpenFloors$Floor" (26 : Nat) "OpenFloors$Floor" "number" "I") ∈ zz_BW := zz_tw 333 (by decide +kernel) (by decide +kernel)
theorem zw_335 : (Cond.fieldLink "OpenFloors$Floor" (29 : Nat) "OpenFloors$Floor" "seats" "I") ∈ zz_BW := zz_tw 335 (by decide +kernel) (by decide +kernel)
theorem zw_337 : (Cond.fieldLink "OpenFloors$Floor" (32 : Nat) "OpenFloors$Floor" "cost" "I") ∈ zz_BW := zz_tw 337 (by decide +kernel) (by decide +kernel)
theorem zw_339 : (Cond.fieldLink "OpenFloors$Floor" (9 : Nat) "OpenFloors$Floor" "open" "Z") ∈ zz_BW := zz_tw 339 (by decide +kernel) (by decide +kernel)
theorem zw_341 : (Cond.fieldLink "OpenFloors$Floor" (15 : Nat) "OpenFloors$Floor" "warmth" "I") ∈ zz_BW := zz_tw 341 (by decide +kernel) (by decide +kernel)
theorem zw_343 : (Cond.fieldLink "OpenFloors$Floor" (19 : Nat) "OpenFloors$Floor" "air" "I") ∈ zz_BW := zz_tw 343 (by decide +kernel) (by decide +kernel)
theorem zw_345 : (Cond.fieldLink "OpenFloors$Floor" (22 : Nat) "OpenFloors$Floor" "keys" "[I") ∈ zz_BW := zz_tw 345 (by decide +kernel) (by decide +kernel)
theorem zw_346 : (Cond.laysFinal "OpenFloors$Floor" "OpenFloors$Floor" "number" "I") ∈ zz_BW := zz_tw 346 (by decide +kernel) (by decide +kernel)
theorem zw_347 : (Cond.soleField "OpenFloors$Floor" "number") ∈ zz_BW := zz_tw 347 (by decide +kernel) (by decide +kernel)
theorem zw_348 : (Cond.laysFinal "OpenFloors$Floor" "OpenFloors$Floor" "seats" "I") ∈ zz_BW := zz_tw 348 (by decide +kernel) (by decide +kernel)
theorem zw_349 : (Cond.soleField "OpenFloors$Floor" "seats") ∈ zz_BW := zz_tw 349 (by decide +kernel) (by decide +kernel)
theorem zw_350 : (Cond.lays "OpenFloors$Floor" "OpenFloors$Floor" "cost" "I") ∈ zz_BW := zz_tw 350 (by decide +kernel) (by decide +kernel)
theorem zw_351 : (Cond.soleField "OpenFloors$Floor" "cost") ∈ zz_BW := zz_tw 351 (by decide +kernel) (by decide +kernel)
theorem zw_352 : (Cond.lays "OpenFloors$Floor" "OpenFloors$Floor" "open" "Z") ∈ zz_BW := zz_tw 352 (by decide +kernel) (by decide +kernel)
theorem zw_353 : (Cond.soleField "OpenFloors$Floor" "open") ∈ zz_BW := zz_tw 353 (by decide +kernel) (by decide +kernel)
theorem zw_354 : (Cond.lays "OpenFloors$Floor" "OpenFloors$Floor" "warmth" "I") ∈ zz_BW := zz_tw 354 (by decide +kernel) (by decide +kernel)
theorem zw_355 : (Cond.soleField "OpenFloors$Floor" "warmth") ∈ zz_BW := zz_tw 355 (by decide +kernel) (by decide +kernel)
theorem zw_356 : (Cond.lays "OpenFloors$Floor" "OpenFloors$Floor" "air" "I") ∈ zz_BW := zz_tw 356 (by decide +kernel) (by decide +kernel)
theorem zw_357 : (Cond.soleField "OpenFloors$Floor" "air") ∈ zz_BW := zz_tw 357 (by decide +kernel) (by decide +kernel)
theorem zw_358 : (Cond.laysFinal "OpenFloors$Floor" "OpenFloors$Floor" "keys" "[I") ∈ zz_BW := zz_tw 358 (by decide +kernel) (by decide +kernel)
theorem zw_359 : (Cond.soleField "OpenFloors$Floor" "keys") ∈ zz_BW := zz_tw 359 (by decide +kernel) (by decide +kernel)
theorem zw_360 : (Cond.superclass "OpenFloors$Floor" "java/lang/Object") ∈ zz_BW := zz_tw 360 (by decide +kernel) (by decide +kernel)
theorem zw_361 : (Cond.arrayClass FieldType.int) ∈ zz_BW := zz_tw 361 (by decide +kernel) (by decide +kernel)
theorem zw_362 : (Cond.methodLink "OpenFloors" (66 : Nat) ({ cls := "java/util/ArrayList", name := "add", desc := "(Ljava/lang/Object;)Z" } : MethodName)) ∈ zz_BW := zz_tw 362 (by decide +kernel) (by decide +kernel)
theorem zw_363 : (Cond.instanceMethod ({ cls := "java/util/ArrayList", name := "add", desc := "(Ljava/lang/Object;)Z" } : MethodName)) ∈ zz_BW := zz_tw 363 (by decide +kernel) (by decide +kernel)
theorem zw_364 : (Cond.selects "java/util/ArrayList" ({ cls := "java/util/ArrayList", name := "add", desc := "(Ljava/lang/Object;)Z" } : MethodName) ({ cls := "java/util/ArrayList", name := "add", desc := "(Ljava/lang/Object;)Z" } : MethodName)) ∈ zz_BW := zz_tw 364 (by decide +kernel) (by decide +kernel)
theorem zw_365 : (Cond.code ({ cls := "java/util/ArrayList", name := "add", desc := "(Ljava/lang/Object;)Z" } : MethodName) prog_23_method_25_code (2 : Nat) (Option.some FieldType.boolean)) ∈ zz_BW := zz_tw 365 (by decide +kernel) (by decide +kernel)
theorem zw_366 : (Cond.methodLink "java/util/ArrayList" (131 : Nat) ({ cls := "java/util/ArrayList", name := "add", desc := "(Ljava/lang/Object;[Ljava/lang/Object;I)V" } : MethodName)) ∈ zz_BW := zz_tw 366 (by decide +kernel) (by decide +kernel)
theorem zw_368 : (Cond.instanceMethod ({ cls := "java/util/ArrayList", name := "add", desc := "(Ljava/lang/Object;[Ljava/lang/Object;I)V" } : MethodName)) ∈ zz_BW := zz_tw 368 (by decide +kernel) (by decide +kernel)
theorem zw_369 : (Cond.code ({ cls := "java/util/ArrayList", name := "add", desc := "(Ljava/lang/Object;[Ljava/lang/Object;I)V" } : MethodName) prog_23_method_24_code (4 : Nat) (Option.none : Option Jvm.ClassFile.FieldType)) ∈ zz_BW := zz_tw 369 (by decide +kernel) (by decide +kernel)
theorem zw_370 : (Cond.methodLink "java/util/ArrayList" (129 : Nat) ({ cls := "java/util/ArrayList", name := "grow", desc := "()[Ljava/lang/Object;" } : MethodName)) ∈ zz_BW := zz_tw 370 (by decide +kernel) (by decide +kernel)
theorem zw_372 : (Cond.instanceMethod ({ cls := "java/util/ArrayList", name := "grow", desc := "()[Ljava/lang/Object;" } : MethodName)) ∈ zz_BW := zz_tw 372 (by decide +kernel) (by decide +kernel)
theorem zw_373 : (Cond.code ({ cls := "java/util/ArrayList", name := "grow", desc := "()[Ljava/lang/Object;" } : MethodName) prog_23_method_7_code (1 : Nat) (Option.some (FieldType.array (FieldType.object "java/lang/Object")))) ∈ zz_BW := zz_tw 373 (by decide +kernel) (by decide +kernel)
theorem zw_374 : (Cond.methodLink "java/util/ArrayList" (69 : Nat) ({ cls := "java/util/ArrayList", name := "grow", desc := "(I)[Ljava/lang/Object;" } : MethodName)) ∈ zz_BW := zz_tw 374 (by decide +kernel) (by decide +kernel)
theorem zw_376 : (Cond.instanceMethod ({ cls := "java/util/ArrayList", name := "grow", desc := "(I)[Ljava/lang/Object;" } : MethodName)) ∈ zz_BW := zz_tw 376 (by decide +kernel) (by decide +kernel)
theorem zw_377 : (Cond.code ({ cls := "java/util/ArrayList", name := "grow", desc := "(I)[Ljava/lang/Object;" } : MethodName) prog_23_method_6_code (4 : Nat) (Option.some (FieldType.array (FieldType.object "java/lang/Object")))) ∈ zz_BW := zz_tw 377 (by decide +kernel) (by decide +kernel)
theorem zw_378 : (Cond.methodLink "java/util/ArrayList" (73 : Nat) ({ cls := "jdk/internal/util/ArraysSupport", name := "newLength", desc := "(III)I" } : MethodName)) ∈ zz_BW := zz_tw 378 (by decide +kernel) (by decide +kernel)
theorem zw_379 : (Cond.static ({ cls := "jdk/internal/util/ArraysSupport", name := "newLength", desc := "(III)I" } : MethodName)) ∈ zz_BW := zz_tw 379 (by decide +kernel) (by decide +kernel)
theorem zw_380 : (Cond.code ({ cls := "jdk/internal/util/ArraysSupport", name := "newLength", desc := "(III)I" } : MethodName) prog_31_method_27_code (4 : Nat) (Option.some FieldType.int)) ∈ zz_BW := zz_tw 380 (by decide +kernel) (by decide +kernel)
theorem zw_381 : (Cond.methodLink "jdk/internal/util/ArraysSupport" (194 : Nat) ({ cls := "java/lang/Math", name := "max", desc := "(II)I" } : MethodName)) ∈ zz_BW := zz_tw 381 (by decide +kernel) (by decide +kernel)
theorem zw_382 : (Cond.static ({ cls := "java/lang/Math", name := "max", desc := "(II)I" } : MethodName)) ∈ zz_BW := zz_tw 382 (by decide +kernel) (by decide +kernel)
theorem zw_383 : (Cond.code ({ cls := "java/lang/Math", name := "max", desc := "(II)I" } : MethodName) prog_15_method_65_code (2 : Nat) (Option.some FieldType.int)) ∈ zz_BW := zz_tw 383 (by decide +kernel) (by decide +kernel)
theorem zw_384 : (Cond.constant "jdk/internal/util/ArraysSupport" (200 : Nat) (2147483639 : Int32)) ∈ zz_BW := zz_tw 384 (by decide +kernel) (by decide +kernel)
theorem zw_385 : (Cond.methodLink "jdk/internal/util/ArraysSupport" (201 : Nat) ({ cls := "jdk/internal/util/ArraysSupport", name := "hugeLength", desc := "(II)I" } : MethodName)) ∈ zz_BW := zz_tw 385 (by decide +kernel) (by decide +kernel)
theorem zw_386 : (Cond.static ({ cls := "jdk/internal/util/ArraysSupport", name := "hugeLength", desc := "(II)I" } : MethodName)) ∈ zz_BW := zz_tw 386 (by decide +kernel) (by decide +kernel)
theorem zw_387 : (Cond.code ({ cls := "jdk/internal/util/ArraysSupport", name := "hugeLength", desc := "(II)I" } : MethodName) prog_31_method_28_code (3 : Nat) (Option.some FieldType.int)) ∈ zz_BW := zz_tw 387 (by decide +kernel) (by decide +kernel)
theorem zw_388 : (Cond.methodLink "java/util/ArrayList" (66 : Nat) ({ cls := "java/util/Arrays", name := "copyOf", desc := "([Ljava/lang/Object;I)[Ljava/lang/Object;" } : MethodName)) ∈ zz_BW := zz_tw 388 (by decide +kernel) (by decide +kernel)
theorem zw_389 : (Cond.static ({ cls := "java/util/Arrays", name := "copyOf", desc := "([Ljava/lang/Object;I)[Ljava/lang/Object;" } : MethodName)) ∈ zz_BW := zz_tw 389 (by decide +kernel) (by decide +kernel)
theorem zw_390 : (Cond.code ({ cls := "java/util/Arrays", name := "copyOf", desc := "([Ljava/lang/Object;I)[Ljava/lang/Object;" } : MethodName) prog_24_method_119_code (2 : Nat) (Option.some (FieldType.array (FieldType.object "java/lang/Object")))) ∈ zz_BW := zz_tw 390 (by decide +kernel) (by decide +kernel)
theorem zw_391 : (Cond.methodLink "java/util/Arrays" (86 : Nat) ({ cls := "java/lang/Object", name := "getClass", desc := "()Ljava/lang/Class;" } : MethodName)) ∈ zz_BW := zz_tw 391 (by decide +kernel) (by decide +kernel)
theorem zw_392 : (Cond.instanceMethod ({ cls := "java/lang/Object", name := "getClass", desc := "()Ljava/lang/Class;" } : MethodName)) ∈ zz_BW := zz_tw 392 (by decide +kernel) (by decide +kernel)
theorem zw_393 : (Cond.sameMethod "java/lang/Object" "java/lang/Object" "getClass" "()Ljava/lang/Class;") ∈ zz_BW := zz_tw 393 (by decide +kernel) (by decide +kernel)
theorem zw_394 : (Cond.selects "OpenFloors" ({ cls := "java/lang/Object", name := "getClass", desc := "()Ljava/lang/Class;" } : MethodName) ({ cls := "java/lang/Object", name := "getClass", desc := "()Ljava/lang/Class;" } : MethodName)) ∈ zz_BW := zz_tw 394 (by decide +kernel) (by decide +kernel)
theorem zw_395 : (Cond.selects "OpenFloors$Floor" ({ cls := "java/lang/Object", name := "getClass", desc := "()Ljava/lang/Class;" } : MethodName) ({ cls := "java/lang/Object", name := "getClass", desc := "()Ljava/lang/Class;" } : MethodName)) ∈ zz_BW := zz_tw 395 (by decide +kernel) (by decide +kernel)
theorem zw_396 : (Cond.selects "OpenFloors$Person" ({ cls := "java/lang/Object", name := "getClass", desc := "()Ljava/lang/Class;" } : MethodName) ({ cls := "java/lang/Object", name := "getClass", desc := "()Ljava/lang/Class;" } : MethodName)) ∈ zz_BW := zz_tw 396 (by decide +kernel) (by decide +kernel)
theorem zw_397 : (Cond.selects "OpenFloorsModel" ({ cls := "java/lang/Object", name := "getClass", desc := "()Ljava/lang/Class;" } : MethodName) ({ cls := "java/lang/Object", name := "getClass", desc := "()Ljava/lang/Class;" } : MethodName)) ∈ zz_BW := zz_tw 397 (by decide +kernel) (by decide +kernel)
theorem zw_398 : (Cond.selects "java/lang/ArithmeticException" ({ cls := "java/lang/Object", name := "getClass", desc := "()Ljava/lang/Class;" } : MethodName) ({ cls := "java/lang/Object", name := "getClass", desc := "()Ljava/lang/Class;" } : MethodName)) ∈ zz_BW := zz_tw 398 (by decide +kernel) (by decide +kernel)
theorem zw_399 : (Cond.selects "java/lang/ArrayIndexOutOfBoundsException" ({ cls := "java/lang/Object", name := "getClass", desc := "()Ljava/lang/Class;" } : MethodName) ({ cls := "java/lang/Object", name := "getClass", desc := "()Ljava/lang/Class;" } : MethodName)) ∈ zz_BW := zz_tw 399 (by decide +kernel) (by decide +kernel)
theorem zw_400 : (Cond.selects "java/lang/IllegalArgumentException" ({ cls := "java/lang/Object", name := "getClass", desc := "()Ljava/lang/Class;" } : MethodName) ({ cls := "java/lang/Object", name := "getClass", desc := "()Ljava/lang/Class;" } : MethodName)) ∈ zz_BW := zz_tw 400 (by decide +kernel) (by decide +kernel)
theorem zw_401 : (Cond.selects "java/lang/IllegalStateException" ({ cls := "java/lang/Object", name := "getClass", desc := "()Ljava/lang/Class;" } : MethodName) ({ cls := "java/lang/Object", name := "getClass", desc := "()Ljava/lang/Class;" } : MethodName)) ∈ zz_BW := zz_tw 401 (by decide +kernel) (by decide +kernel)
theorem zw_402 : (Cond.selects "java/lang/IndexOutOfBoundsException" ({ cls := "java/lang/Object", name := "getClass", desc := "()Ljava/lang/Class;" } : MethodName) ({ cls := "java/lang/Object", name := "getClass", desc := "()Ljava/lang/Class;" } : MethodName)) ∈ zz_BW := zz_tw 402 (by decide +kernel) (by decide +kernel)
theorem zw_403 : (Cond.selects "java/lang/UnsupportedOperationException" ({ cls := "java/lang/Object", name := "getClass", desc := "()Ljava/lang/Class;" } : MethodName) ({ cls := "java/lang/Object", name := "getClass", desc := "()Ljava/lang/Class;" } : MethodName)) ∈ zz_BW := zz_tw 403 (by decide +kernel) (by decide +kernel)
theorem zw_404 : (Cond.selects "java/util/ArrayList" ({ cls := "java/lang/Object", name := "getClass", desc := "()Ljava/lang/Class;" } : MethodName) ({ cls := "java/lang/Object", name := "getClass", desc := "()Ljava/lang/Class;" } : MethodName)) ∈ zz_BW := zz_tw 404 (by decide +kernel) (by decide +kernel)
theorem zw_405 : (Cond.selects "java/util/NoSuchElementException" ({ cls := "java/lang/Object", name := "getClass", desc := "()Ljava/lang/Class;" } : MethodName) ({ cls := "java/lang/Object", name := "getClass", desc := "()Ljava/lang/Class;" } : MethodName)) ∈ zz_BW := zz_tw 405 (by decide +kernel) (by decide +kernel)
theorem zw_406 : (Cond.native ({ cls := "java/lang/Object", name := "getClass", desc := "()Ljava/lang/Class;" } : MethodName)) ∈ zz_BW := zz_tw 406 (by decide +kernel) (by decide +kernel)
theorem zw_407 : (Cond.methodLink "java/util/Arrays" (300 : Nat) ({ cls := "java/util/Arrays", name := "copyOf", desc := "([Ljava/lang/Object;ILjava/lang/Class;)[Ljava/lang/Object;" } : MethodName)) ∈ zz_BW := zz_tw 407 (by decide +kernel) (by decide +kernel)
theorem zw_408 : (Cond.static ({ cls := "java/util/Arrays", name := "copyOf", desc := "([Ljava/lang/Object;ILjava/lang/Class;)[Ljava/lang/Object;" } : MethodName)) ∈ zz_BW := zz_tw 408 (by decide +kernel) (by decide +kernel)
theorem zw_409 : (Cond.code ({ cls := "java/util/Arrays", name := "copyOf", desc := "([Ljava/lang/Object;ILjava/lang/Class;)[Ljava/lang/Object;" } : MethodName) prog_24_method_120_code (4 : Nat) (Option.some (FieldType.array (FieldType.object "java/lang/Object")))) ∈ zz_BW := zz_tw 409 (by decide +kernel) (by decide +kernel)
theorem zw_410 : (Cond.classLink "java/util/Arrays" (110 : Nat) "[Ljava/lang/Object;") ∈ zz_BW := zz_tw 410 (by decide +kernel) (by decide +kernel)
theorem zw_412 : (Cond.classLink "java/util/Arrays" (2 : Nat) "java/lang/Object") ∈ zz_BW := zz_tw 412 (by decide +kernel) (by decide +kernel)
theorem zw_413 : (Cond.methodLink "java/util/Arrays" (304 : Nat) ({ cls := "java/lang/Math", name := "min", desc := "(II)I" } : MethodName)) ∈ zz_BW := zz_tw 413 (by decide +kernel) (by decide +kernel)
theorem zw_414 : (Cond.methodLink "java/util/Arrays" (150 : Nat) ({ cls := "java/lang/System", name := "arraycopy", desc := "(Ljava/lang/Object;ILjava/lang/Object;II)V" } : MethodName)) ∈ zz_BW := zz_tw 414 (by decide +kernel) (by decide +kernel)
theorem zw_415 : (Cond.static ({ cls := "java/lang/System", name := "arraycopy", desc := "(Ljava/lang/Object;ILjava/lang/Object;II)V" } : MethodName)) ∈ zz_BW := zz_tw 415 (by decide +kernel) (by decide +kernel)
theorem zw_416 : (Cond.native ({ cls := "java/lang/System", name := "arraycopy", desc := "(Ljava/lang/Object;ILjava/lang/Object;II)V" } : MethodName)) ∈ zz_BW := zz_tw 416 (by decide +kernel) (by decide +kernel)
theorem zw_417 : (Cond.methodLink "java/util/ArrayList" (79 : Nat) ({ cls := "java/lang/Math", name := "max", desc := "(II)I" } : MethodName)) ∈ zz_BW := zz_tw 417 (by decide +kernel) (by decide +kernel)
theorem zw_418 : (Cond.classLink "java/util/ArrayList" (7 : Nat) "java/lang/Object") ∈ zz_BW := zz_tw 418 (by decide +kernel) (by decide +kernel)
theorem zw_419 : (Cond.methodLink "OpenFloorsLaw" (100 : Nat) ({ cls := "OpenFloorsLaw", name := "setCost", desc := "(LOpenFloors;II[J)I" } : MethodName)) ∈ zz_BW := zz_tw 419 (by decide +kernel) (by decide +kernel)
theorem zw_420 : (Cond.static ({ cls := "OpenFloorsLaw", name := "setCost", desc := "(LOpenFloors;II[J)I" } : MethodName)) ∈ zz_BW := zz_tw 420 (by decide +kernel) (by decide +kernel)
theorem zw_421 : (Cond.codeWith ({ cls := "OpenFloorsLaw", name := "setCost", desc := "(LOpenFloors;II[J)I" } : MethodName) method_4_code (5 : Nat) (Option.some FieldType.int) [((0 : Nat), (10 : Nat), (13 : Nat), (20 : Nat)), ((0 : Nat), (10 : Nat), (17 : Nat), (13 : Nat))]) ∈ zz_BW := zz_tw 421 (by decide +kernel) (by decide +kernel)
theorem zw_422 : (Cond.classLink "OpenFloorsLaw" (20 : Nat) "java/lang/IndexOutOfBoundsException") ∈ zz_BW := zz_tw 422 (by decide +kernel) (by decide +kernel)
theorem zw_423 : (Cond.instantiable "java/lang/ArrayIndexOutOfBoundsException" (6 : Nat)) ∈ zz_BW := zz_tw 423 (by decide +kernel) (by decide +kernel)
theorem zw_424 : (Cond.instanceMethod ({ cls := "java/lang/ArrayIndexOutOfBoundsException", name := "<init>", desc := "(Ljava/lang/String;)V" } : MethodName)) ∈ zz_BW := zz_tw 424 (by decide +kernel) (by decide +kernel)
theorem zw_425 : (Cond.code ({ cls := "java/lang/ArrayIndexOutOfBoundsException", name := "<init>", desc := "(Ljava/lang/String;)V" } : MethodName) prog_8_method_2_code (2 : Nat) (Option.none : Option Jvm.ClassFile.FieldType)) ∈ zz_BW := zz_tw 425 (by decide +kernel) (by decide +kernel)
theorem zw_426 : (Cond.methodLink "java/lang/ArrayIndexOutOfBoundsException" (7 : Nat) ({ cls := "java/lang/IndexOutOfBoundsException", name := "<init>", desc := "(Ljava/lang/String;)V" } : MethodName)) ∈ zz_BW := zz_tw 426 (by decide +kernel) (by decide +kernel)
theorem zw_427 : (Cond.instanceMethod ({ cls := "java/lang/IndexOutOfBoundsException", name := "<init>", desc := "(Ljava/lang/String;)V" } : MethodName)) ∈ zz_BW := zz_tw 427 (by decide +kernel) (by decide +kernel)
theorem zw_428 : (Cond.code ({ cls := "java/lang/IndexOutOfBoundsException", name := "<init>", desc := "(Ljava/lang/String;)V" } : MethodName) prog_13_method_2_code (2 : Nat) (Option.none : Option Jvm.ClassFile.FieldType)) ∈ zz_BW := zz_tw 428 (by decide +kernel) (by decide +kernel)
theorem zw_429 : (Cond.methodLink "java/lang/IndexOutOfBoundsException" (7 : Nat) ({ cls := "java/lang/RuntimeException", name := "<init>", desc := "(Ljava/lang/String;)V" } : MethodName)) ∈ zz_BW := zz_tw 429 (by decide +kernel) (by decide +kernel)
theorem zw_430 : (Cond.lays "java/lang/ArrayIndexOutOfBoundsException" "java/lang/Throwable" "backtrace" "Ljava/lang/Object;") ∈ zz_BW := zz_tw 430 (by decide +kernel) (by decide +kernel)
theorem zw_431 : (Cond.lays "java/lang/ArrayIndexOutOfBoundsException" "java/lang/Throwable" "detailMessage" "Ljava/lang/String;") ∈ zz_BW := zz_tw 431 (by decide +kernel) (by decide +kernel)
theorem zw_432 : (Cond.lays "java/lang/ArrayIndexOutOfBoundsException" "java/lang/Throwable" "cause" "Ljava/lang/Throwable;") ∈ zz_BW := zz_tw 432 (by decide +kernel) (by decide +kernel)
theorem zw_433 : (Cond.lays "java/lang/ArrayIndexOutOfBoundsException" "java/lang/Throwable" "stackTrace" "[Ljava/lang/StackTraceElement;") ∈ zz_BW := zz_tw 433 (by decide +kernel) (by decide +kernel)
theorem zw_434 : (Cond.lays "java/lang/ArrayIndexOutOfBoundsException" "java/lang/Throwable" "depth" "I") ∈ zz_BW := zz_tw 434 (by decide +kernel) (by decide +kernel)
theorem zw_435 : (Cond.lays "java/lang/ArrayIndexOutOfBoundsException" "java/lang/Throwable" "suppressedExceptions" "Ljava/util/List;") ∈ zz_BW := zz_tw 435 (by decide +kernel) (by decide +kernel)
theorem zw_436 : (Cond.superclass "java/lang/ArrayIndexOutOfBoundsException" "java/lang/IndexOutOfBoundsException") ∈ zz_BW := zz_tw 436 (by decide +kernel) (by decide +kernel)
theorem zw_440 : (Cond.selects "java/lang/ArrayIndexOutOfBoundsException" ({ cls := "java/lang/Throwable", name := "fillInStackTrace", desc := "(I)Ljava/lang/Throwable;" } : MethodName) ({ cls := "java/lang/Throwable", name := "fillInStackTrace", desc := "(I)Ljava/lang/Throwable;" } : MethodName)) ∈ zz_BW := zz_tw 440 (by decide +kernel) (by decide +kernel)
theorem zw_441 : (Cond.instantiable "java/lang/String" (4 : Nat)) ∈ zz_BW := zz_tw 441 (by decide +kernel) (by decide +kernel)
theorem zw_442 : (Cond.laysFinal "java/lang/String" "java/lang/String" "value" "[B") ∈ zz_BW := zz_tw 442 (by decide +kernel) (by decide +kernel)
theorem zw_443 : (Cond.soleField "java/lang/String" "value") ∈ zz_BW := zz_tw 443 (by decide +kernel) (by decide +kernel)
theorem zw_444 : (Cond.laysFinal "java/lang/String" "java/lang/String" "coder" "B") ∈ zz_BW := zz_tw 444 (by decide +kernel) (by decide +kernel)
theorem zw_445 : (Cond.soleField "java/lang/String" "coder") ∈ zz_BW := zz_tw 445 (by decide +kernel) (by decide +kernel)
theorem zw_446 : (Cond.methodLink "OpenFloorsLaw" (17 : Nat) ({ cls := "OpenFloors", name := "setCost", desc := "(II)I" } : MethodName)) ∈ zz_BW := zz_tw 446 (by decide +kernel) (by decide +kernel)
theorem zw_447 : (Cond.instanceMethod ({ cls := "OpenFloors", name := "setCost", desc := "(II)I" } : MethodName)) ∈ zz_BW := zz_tw 447 (by decide +kernel) (by decide +kernel)
theorem zw_448 : (Cond.selects "OpenFloors" ({ cls := "OpenFloors", name := "setCost", desc := "(II)I" } : MethodName) ({ cls := "OpenFloors", name := "setCost", desc := "(II)I" } : MethodName)) ∈ zz_BW := zz_tw 448 (by decide +kernel) (by decide +kernel)
theorem zw_449 : (Cond.code ({ cls := "OpenFloors", name := "setCost", desc := "(II)I" } : MethodName) prog_1_method_3_code (5 : Nat) (Option.some FieldType.int)) ∈ zz_BW := zz_tw 449 (by decide +kernel) (by decide +kernel)
theorem zw_450 : (Cond.methodLink "OpenFloors" (70 : Nat) ({ cls := "OpenFloors", name := "existingFloor", desc := "(I)LOpenFloors$Floor;" } : MethodName)) ∈ zz_BW := zz_tw 450 (by decide +kernel) (by decide +kernel)
theorem zw_452 : (Cond.instanceMethod ({ cls := "OpenFloors", name := "existingFloor", desc := "(I)LOpenFloors$Floor;" } : MethodName)) ∈ zz_BW := zz_tw 452 (by decide +kernel) (by decide +kernel)
theorem zw_453 : (Cond.code ({ cls := "OpenFloors", name := "existingFloor", desc := "(I)LOpenFloors$Floor;" } : MethodName) prog_1_method_32_code (2 : Nat) (Option.some (FieldType.object "OpenFloors$Floor"))) ∈ zz_BW := zz_tw 453 (by decide +kernel) (by decide +kernel)
theorem zw_454 : (Cond.classLink "OpenFloors" (124 : Nat) "java/lang/IndexOutOfBoundsException") ∈ zz_BW := zz_tw 454 (by decide +kernel) (by decide +kernel)
theorem zw_455 : (Cond.instantiable "java/lang/IndexOutOfBoundsException" (6 : Nat)) ∈ zz_BW := zz_tw 455 (by decide +kernel) (by decide +kernel)
theorem zw_457 : (Cond.selects "java/lang/IndexOutOfBoundsException" ({ cls := "java/lang/Throwable", name := "fillInStackTrace", desc := "(I)Ljava/lang/Throwable;" } : MethodName) ({ cls := "java/lang/Throwable", name := "fillInStackTrace", desc := "(I)Ljava/lang/Throwable;" } : MethodName)) ∈ zz_BW := zz_tw 457 (by decide +kernel) (by decide +kernel)
theorem zw_458 : (Cond.lays "java/lang/IndexOutOfBoundsException" "java/lang/Throwable" "cause" "Ljava/lang/Throwable;") ∈ zz_BW := zz_tw 458 (by decide +kernel) (by decide +kernel)
theorem zw_459 : (Cond.lays "java/lang/IndexOutOfBoundsException" "java/lang/Throwable" "stackTrace" "[Ljava/lang/StackTraceElement;") ∈ zz_BW := zz_tw 459 (by decide +kernel) (by decide +kernel)
theorem zw_460 : (Cond.lays "java/lang/IndexOutOfBoundsException" "java/lang/Throwable" "suppressedExceptions" "Ljava/util/List;") ∈ zz_BW := zz_tw 460 (by decide +kernel) (by decide +kernel)
theorem zw_461 : (Cond.lays "java/lang/IndexOutOfBoundsException" "java/lang/Throwable" "detailMessage" "Ljava/lang/String;") ∈ zz_BW := zz_tw 461 (by decide +kernel) (by decide +kernel)
theorem zw_462 : (Cond.lays "java/lang/IndexOutOfBoundsException" "java/lang/Throwable" "backtrace" "Ljava/lang/Object;") ∈ zz_BW := zz_tw 462 (by decide +kernel) (by decide +kernel)
theorem zw_464 : (Cond.methodLink "OpenFloors" (128 : Nat) ({ cls := "java/lang/IndexOutOfBoundsException", name := "<init>", desc := "(Ljava/lang/String;)V" } : MethodName)) ∈ zz_BW := zz_tw 464 (by decide +kernel) (by decide +kernel)
theorem zw_465 : (Cond.lays "java/lang/IndexOutOfBoundsException" "java/lang/Throwable" "depth" "I") ∈ zz_BW := zz_tw 465 (by decide +kernel) (by decide +kernel)
theorem zw_466 : (Cond.superclass "java/lang/IndexOutOfBoundsException" "java/lang/RuntimeException") ∈ zz_BW := zz_tw 466 (by decide +kernel) (by decide +kernel)
theorem zw_467 : (Cond.methodLink "OpenFloorsLaw" (103 : Nat) ({ cls := "OpenFloorsLaw", name := "addPerson", desc := "(LOpenFloors;I[J)I" } : MethodName)) ∈ zz_BW := zz_tw 467 (by decide +kernel) (by decide +kernel)
theorem zw_468 : (Cond.static ({ cls := "OpenFloorsLaw", name := "addPerson", desc := "(LOpenFloors;I[J)I" } : MethodName)) ∈ zz_BW := zz_tw 468 (by decide +kernel) (by decide +kernel)
theorem zw_469 : (Cond.codeWith ({ cls := "OpenFloorsLaw", name := "addPerson", desc := "(LOpenFloors;I[J)I" } : MethodName) method_5_code (4 : Nat) (Option.some FieldType.int) [((0 : Nat), (9 : Nat), (12 : Nat), (13 : Nat)), ((0 : Nat), (9 : Nat), (15 : Nat), (15 : Nat))]) ∈ zz_BW := zz_tw 469 (by decide +kernel) (by decide +kernel)
theorem zw_470 : (Cond.methodLink "OpenFloorsLaw" (22 : Nat) ({ cls := "OpenFloors", name := "addPerson", desc := "(I)I" } : MethodName)) ∈ zz_BW := zz_tw 470 (by decide +kernel) (by decide +kernel)
theorem zw_471 : (Cond.instanceMethod ({ cls := "OpenFloors", name := "addPerson", desc := "(I)I" } : MethodName)) ∈ zz_BW := zz_tw 471 (by decide +kernel) (by decide +kernel)
theorem zw_472 : (Cond.selects "OpenFloors" ({ cls := "OpenFloors", name := "addPerson", desc := "(I)I" } : MethodName) ({ cls := "OpenFloors", name := "addPerson", desc := "(I)I" } : MethodName)) ∈ zz_BW := zz_tw 472 (by decide +kernel) (by decide +kernel)
theorem zw_473 : (Cond.code ({ cls := "OpenFloors", name := "addPerson", desc := "(I)I" } : MethodName) prog_1_method_4_code (3 : Nat) (Option.some FieldType.int)) ∈ zz_BW := zz_tw 473 (by decide +kernel) (by decide +kernel)
theorem zw_474 : (Cond.methodLink "OpenFloors" (77 : Nat) ({ cls := "OpenFloors", name := "checkTeam", desc := "(I)V" } : MethodName)) ∈ zz_BW := zz_tw 474 (by decide +kernel) (by decide +kernel)
theorem zw_475 : (Cond.static ({ cls := "OpenFloors", name := "checkTeam", desc := "(I)V" } : MethodName)) ∈ zz_BW := zz_tw 475 (by decide +kernel) (by decide +kernel)
theorem zw_476 : (Cond.code ({ cls := "OpenFloors", name := "checkTeam", desc := "(I)V" } : MethodName) prog_1_method_35_code (1 : Nat) (Option.none : Option Jvm.ClassFile.FieldType)) ∈ zz_BW := zz_tw 476 (by decide +kernel) (by decide +kernel)
theorem zw_479 : (Cond.instantiable "OpenFloors$Person" (7 : Nat)) ∈ zz_BW := zz_tw 479 (by decide +kernel) (by decide +kernel)
theorem zw_480 : (Cond.methodLink "OpenFloors" (84 : Nat) ({ cls := "OpenFloors$Person", name := "<init>", desc := "(II)V" } : MethodName)) ∈ zz_BW := zz_tw 480 (by decide +kernel) (by decide +kernel)
theorem zw_481 : (Cond.instanceMethod ({ cls := "OpenFloors$Person", name := "<init>", desc := "(II)V" } : MethodName)) ∈ zz_BW := zz_tw 481 (by decide +kernel) (by decide +kernel)
theorem zw_482 : (Cond.code ({ cls := "OpenFloors$Person", name := "<init>", desc := "(II)V" } : MethodName) prog_3_method_1_code (3 : Nat) (Option.none : Option Jvm.ClassFile.FieldType)) ∈ zz_BW := zz_tw 482 (by decide +kernel) (by decide +kernel)
theorem zw_483 : (Cond.methodLink "OpenFloors$Person" (3 : Nat) ({ cls := "java/lang/Object", name := "<init>", desc := "()V" } : MethodName)) ∈ zz_BW := zz_tw 483 (by decide +kernel) (by decide +kernel)
theorem zw_484 : (Cond.fieldLink "OpenFloors$Person" (29 : Nat) "OpenFloors$Person" "number" "I") ∈ zz_BW := zz_tw 484 (by decide +kernel) (by decide +kernel)
theorem zw_486 : (Cond.fieldLink "OpenFloors$Person" (32 : Nat) "OpenFloors$Person" "team" "I") ∈ zz_BW := zz_tw 486 (by decide +kernel) (by decide +kernel)
theorem zw_488 : (Cond.fieldLink "OpenFloors$Person" (9 : Nat) "OpenFloors$Person" "standing" "I") ∈ zz_BW := zz_tw 488 (by decide +kernel) (by decide +kernel)
theorem zw_490 : (Cond.fieldLink "OpenFloors$Person" (15 : Nat) "OpenFloors$Person" "wanted" "LOpenFloors$Floor;") ∈ zz_BW := zz_tw 490 (by decide +kernel) (by decide +kernel)
theorem zw_492 : (Cond.fieldLink "OpenFloors$Person" (19 : Nat) "OpenFloors$Person" "seat" "LOpenFloors$Floor;") ∈ zz_BW := zz_tw 492 (by decide +kernel) (by decide +kernel)
theorem zw_494 : (Cond.fieldLink "OpenFloors$Person" (22 : Nat) "OpenFloors$Person" "in" "Z") ∈ zz_BW := zz_tw 494 (by decide +kernel) (by decide +kernel)
theorem zw_496 : (Cond.fieldLink "OpenFloors$Person" (26 : Nat) "OpenFloors$Person" "came" "Z") ∈ zz_BW := zz_tw 496 (by decide +kernel) (by decide +kernel)
theorem zw_498 : (Cond.laysFinal "OpenFloors$Person" "OpenFloors$Person" "number" "I") ∈ zz_BW := zz_tw 498 (by decide +kernel) (by decide +kernel)
theorem zw_499 : (Cond.soleField "OpenFloors$Person" "number") ∈ zz_BW := zz_tw 499 (by decide +kernel) (by decide +kernel)
theorem zw_500 : (Cond.laysFinal "OpenFloors$Person" "OpenFloors$Person" "team" "I") ∈ zz_BW := zz_tw 500 (by decide +kernel) (by decide +kernel)
theorem zw_501 : (Cond.soleField "OpenFloors$Person" "team") ∈ zz_BW := zz_tw 501 (by decide +kernel) (by decide +kernel)
theorem zw_502 : (Cond.lays "OpenFloors$Person" "OpenFloors$Person" "standing" "I") ∈ zz_BW := zz_tw 502 (by decide +kernel) (by decide +kernel)
theorem zw_503 : (Cond.soleField "OpenFloors$Person" "standing") ∈ zz_BW := zz_tw 503 (by decide +kernel) (by decide +kernel)
theorem zw_504 : (Cond.lays "OpenFloors$Person" "OpenFloors$Person" "wanted" "LOpenFloors$Floor;") ∈ zz_BW := zz_tw 504 (by decide +kernel) (by decide +kernel)
theorem zw_505 : (Cond.soleField "OpenFloors$Person" "wanted") ∈ zz_BW := zz_tw 505 (by decide +kernel) (by decide +kernel)
theorem zw_506 : (Cond.lays "OpenFloors$Person" "OpenFloors$Person" "seat" "LOpenFloors$Floor;") ∈ zz_BW := zz_tw 506 (by decide +kernel) (by decide +kernel)
theorem zw_507 : (Cond.soleField "OpenFloors$Person" "seat") ∈ zz_BW := zz_tw 507 (by decide +kernel) (by decide +kernel)
theorem zw_508 : (Cond.lays "OpenFloors$Person" "OpenFloors$Person" "in" "Z") ∈ zz_BW := zz_tw 508 (by decide +kernel) (by decide +kernel)
theorem zw_509 : (Cond.soleField "OpenFloors$Person" "in") ∈ zz_BW := zz_tw 509 (by decide +kernel) (by decide +kernel)
theorem zw_510 : (Cond.lays "OpenFloors$Person" "OpenFloors$Person" "came" "Z") ∈ zz_BW := zz_tw 510 (by decide +kernel) (by decide +kernel)
theorem zw_511 : (Cond.soleField "OpenFloors$Person" "came") ∈ zz_BW := zz_tw 511 (by decide +kernel) (by decide +kernel)
theorem zw_512 : (Cond.superclass "OpenFloors$Person" "java/lang/Object") ∈ zz_BW := zz_tw 512 (by decide +kernel) (by decide +kernel)
theorem zw_513 : (Cond.methodLink "OpenFloorsLaw" (107 : Nat) ({ cls := "OpenFloorsLaw", name := "standing", desc := "(LOpenFloors;I[J)I" } : MethodName)) ∈ zz_BW := zz_tw 513 (by decide +kernel) (by decide +kernel)
theorem zw_514 : (Cond.static ({ cls := "OpenFloorsLaw", name := "standing", desc := "(LOpenFloors;I[J)I" } : MethodName)) ∈ zz_BW := zz_tw 514 (by decide +kernel) (by decide +kernel)
theorem zw_515 : (Cond.codeWith ({ cls := "OpenFloorsLaw", name := "standing", desc := "(LOpenFloors;I[J)I" } : MethodName) method_6_code (4 : Nat) (Option.some FieldType.int) [((0 : Nat), (9 : Nat), (12 : Nat), (29 : Nat))]) ∈ zz_BW := zz_tw 515 (by decide +kernel) (by decide +kernel)
theorem zw_516 : (Cond.classLink "OpenFloorsLaw" (29 : Nat) "java/util/NoSuchElementException") ∈ zz_BW := zz_tw 516 (by decide +kernel) (by decide +kernel)
theorem zw_517 : (Cond.methodLink "OpenFloorsLaw" (26 : Nat) ({ cls := "OpenFloors", name := "standing", desc := "(I)I" } : MethodName)) ∈ zz_BW := zz_tw 517 (by decide +kernel) (by decide +kernel)
theorem zw_518 : (Cond.instanceMethod ({ cls := "OpenFloors", name := "standing", desc := "(I)I" } : MethodName)) ∈ zz_BW := zz_tw 518 (by decide +kernel) (by decide +kernel)
theorem zw_519 : (Cond.selects "OpenFloors" ({ cls := "OpenFloors", name := "standing", desc := "(I)I" } : MethodName) ({ cls := "OpenFloors", name := "standing", desc := "(I)I" } : MethodName)) ∈ zz_BW := zz_tw 519 (by decide +kernel) (by decide +kernel)
theorem zw_520 : (Cond.code ({ cls := "OpenFloors", name := "standing", desc := "(I)I" } : MethodName) prog_1_method_5_code (2 : Nat) (Option.some FieldType.int)) ∈ zz_BW := zz_tw 520 (by decide +kernel) (by decide +kernel)
theorem zw_521 : (Cond.methodLink "OpenFloors" (87 : Nat) ({ cls := "OpenFloors", name := "existingPerson", desc := "(I)LOpenFloors$Person;" } : MethodName)) ∈ zz_BW := zz_tw 521 (by decide +kernel) (by decide +kernel)
theorem zw_523 : (Cond.instanceMethod ({ cls := "OpenFloors", name := "existingPerson", desc := "(I)LOpenFloors$Person;" } : MethodName)) ∈ zz_BW := zz_tw 523 (by decide +kernel) (by decide +kernel)
theorem zw_524 : (Cond.code ({ cls := "OpenFloors", name := "existingPerson", desc := "(I)LOpenFloors$Person;" } : MethodName) prog_1_method_33_code (2 : Nat) (Option.some (FieldType.object "OpenFloors$Person"))) ∈ zz_BW := zz_tw 524 (by decide +kernel) (by decide +kernel)
theorem zw_525 : (Cond.classLink "OpenFloors" (112 : Nat) "java/util/NoSuchElementException") ∈ zz_BW := zz_tw 525 (by decide +kernel) (by decide +kernel)
theorem zw_526 : (Cond.instantiable "java/util/NoSuchElementException" (6 : Nat)) ∈ zz_BW := zz_tw 526 (by decide +kernel) (by decide +kernel)
theorem zw_528 : (Cond.selects "java/util/NoSuchElementException" ({ cls := "java/lang/Throwable", name := "fillInStackTrace", desc := "(I)Ljava/lang/Throwable;" } : MethodName) ({ cls := "java/lang/Throwable", name := "fillInStackTrace", desc := "(I)Ljava/lang/Throwable;" } : MethodName)) ∈ zz_BW := zz_tw 528 (by decide +kernel) (by decide +kernel)
theorem zw_529 : (Cond.lays "java/util/NoSuchElementException" "java/lang/Throwable" "cause" "Ljava/lang/Throwable;") ∈ zz_BW := zz_tw 529 (by decide +kernel) (by decide +kernel)
theorem zw_530 : (Cond.lays "java/util/NoSuchElementException" "java/lang/Throwable" "stackTrace" "[Ljava/lang/StackTraceElement;") ∈ zz_BW := zz_tw 530 (by decide +kernel) (by decide +kernel)
theorem zw_531 : (Cond.lays "java/util/NoSuchElementException" "java/lang/Throwable" "suppressedExceptions" "Ljava/util/List;") ∈ zz_BW := zz_tw 531 (by decide +kernel) (by decide +kernel)
theorem zw_532 : (Cond.lays "java/util/NoSuchElementException" "java/lang/Throwable" "detailMessage" "Ljava/lang/String;") ∈ zz_BW := zz_tw 532 (by decide +kernel) (by decide +kernel)
theorem zw_533 : (Cond.lays "java/util/NoSuchElementException" "java/lang/Throwable" "backtrace" "Ljava/lang/Object;") ∈ zz_BW := zz_tw 533 (by decide +kernel) (by decide +kernel)
theorem zw_535 : (Cond.methodLink "OpenFloors" (116 : Nat) ({ cls := "java/util/NoSuchElementException", name := "<init>", desc := "(Ljava/lang/String;)V" } : MethodName)) ∈ zz_BW := zz_tw 535 (by decide +kernel) (by decide +kernel)
theorem zw_536 : (Cond.instanceMethod ({ cls := "java/util/NoSuchElementException", name := "<init>", desc := "(Ljava/lang/String;)V" } : MethodName)) ∈ zz_BW := zz_tw 536 (by decide +kernel) (by decide +kernel)
theorem zw_537 : (Cond.code ({ cls := "java/util/NoSuchElementException", name := "<init>", desc := "(Ljava/lang/String;)V" } : MethodName) prog_27_method_4_code (2 : Nat) (Option.none : Option Jvm.ClassFile.FieldType)) ∈ zz_BW := zz_tw 537 (by decide +kernel) (by decide +kernel)
theorem zw_538 : (Cond.methodLink "java/util/NoSuchElementException" (13 : Nat) ({ cls := "java/lang/RuntimeException", name := "<init>", desc := "(Ljava/lang/String;)V" } : MethodName)) ∈ zz_BW := zz_tw 538 (by decide +kernel) (by decide +kernel)
theorem zw_539 : (Cond.lays "java/util/NoSuchElementException" "java/lang/Throwable" "depth" "I") ∈ zz_BW := zz_tw 539 (by decide +kernel) (by decide +kernel)
theorem zw_540 : (Cond.superclass "java/util/NoSuchElementException" "java/lang/RuntimeException") ∈ zz_BW := zz_tw 540 (by decide +kernel) (by decide +kernel)
theorem zw_541 : (Cond.methodLink "OpenFloorsLaw" (110 : Nat) ({ cls := "OpenFloorsLaw", name := "book", desc := "(LOpenFloors;II[J)I" } : MethodName)) ∈ zz_BW := zz_tw 541 (by decide +kernel) (by decide +kernel)
theorem zw_542 : (Cond.static ({ cls := "OpenFloorsLaw", name := "book", desc := "(LOpenFloors;II[J)I" } : MethodName)) ∈ zz_BW := zz_tw 542 (by decide +kernel) (by decide +kernel)
theorem zw_543 : (Cond.codeWith ({ cls := "OpenFloorsLaw", name := "book", desc := "(LOpenFloors;II[J)I" } : MethodName) method_7_code (5 : Nat) (Option.some FieldType.int) [((0 : Nat), (10 : Nat), (13 : Nat), (29 : Nat)), ((0 : Nat), (10 : Nat), (17 : Nat), (20 : Nat)), ((0 : Nat), (10 : Nat), (21 : Nat), (15 : Nat)), ((0 : Nat), (10 : Nat), (25 : Nat), (34 : Nat))]) ∈ zz_BW := zz_tw 543 (by decide +kernel) (by decide +kernel)
theorem zw_544 : (Cond.classLink "OpenFloorsLaw" (34 : Nat) "java/lang/UnsupportedOperationException") ∈ zz_BW := zz_tw 544 (by decide +kernel) (by decide +kernel)
theorem zw_545 : (Cond.methodLink "OpenFloorsLaw" (31 : Nat) ({ cls := "OpenFloors", name := "book", desc := "(II)I" } : MethodName)) ∈ zz_BW := zz_tw 545 (by decide +kernel) (by decide +kernel)
theorem zw_546 : (Cond.instanceMethod ({ cls := "OpenFloors", name := "book", desc := "(II)I" } : MethodName)) ∈ zz_BW := zz_tw 546 (by decide +kernel) (by decide +kernel)
theorem zw_547 : (Cond.selects "OpenFloors" ({ cls := "OpenFloors", name := "book", desc := "(II)I" } : MethodName) ({ cls := "OpenFloors", name := "book", desc := "(II)I" } : MethodName)) ∈ zz_BW := zz_tw 547 (by decide +kernel) (by decide +kernel)
theorem zw_548 : (Cond.code ({ cls := "OpenFloors", name := "book", desc := "(II)I" } : MethodName) prog_1_method_6_code (5 : Nat) (Option.some FieldType.int)) ∈ zz_BW := zz_tw 548 (by decide +kernel) (by decide +kernel)
theorem zw_550 : (Cond.classLink "OpenFloors" (107 : Nat) "java/lang/UnsupportedOperationException") ∈ zz_BW := zz_tw 550 (by decide +kernel) (by decide +kernel)
theorem zw_551 : (Cond.instantiable "java/lang/UnsupportedOperationException" (6 : Nat)) ∈ zz_BW := zz_tw 551 (by decide +kernel) (by decide +kernel)
theorem zw_553 : (Cond.selects "java/lang/UnsupportedOperationException" ({ cls := "java/lang/Throwable", name := "fillInStackTrace", desc := "(I)Ljava/lang/Throwable;" } : MethodName) ({ cls := "java/lang/Throwable", name := "fillInStackTrace", desc := "(I)Ljava/lang/Throwable;" } : MethodName)) ∈ zz_BW := zz_tw 553 (by decide +kernel) (by decide +kernel)
theorem zw_554 : (Cond.lays "java/lang/UnsupportedOperationException" "java/lang/Throwable" "cause" "Ljava/lang/Throwable;") ∈ zz_BW := zz_tw 554 (by decide +kernel) (by decide +kernel)
theorem zw_555 : (Cond.lays "java/lang/UnsupportedOperationException" "java/lang/Throwable" "stackTrace" "[Ljava/lang/StackTraceElement;") ∈ zz_BW := zz_tw 555 (by decide +kernel) (by decide +kernel)
theorem zw_556 : (Cond.lays "java/lang/UnsupportedOperationException" "java/lang/Throwable" "suppressedExceptions" "Ljava/util/List;") ∈ zz_BW := zz_tw 556 (by decide +kernel) (by decide +kernel)
theorem zw_557 : (Cond.lays "java/lang/UnsupportedOperationException" "java/lang/Throwable" "detailMessage" "Ljava/lang/String;") ∈ zz_BW := zz_tw 557 (by decide +kernel) (by decide +kernel)
theorem zw_558 : (Cond.lays "java/lang/UnsupportedOperationException" "java/lang/Throwable" "backtrace" "Ljava/lang/Object;") ∈ zz_BW := zz_tw 558 (by decide +kernel) (by decide +kernel)
theorem zw_560 : (Cond.methodLink "OpenFloors" (111 : Nat) ({ cls := "java/lang/UnsupportedOperationException", name := "<init>", desc := "(Ljava/lang/String;)V" } : MethodName)) ∈ zz_BW := zz_tw 560 (by decide +kernel) (by decide +kernel)
theorem zw_561 : (Cond.instanceMethod ({ cls := "java/lang/UnsupportedOperationException", name := "<init>", desc := "(Ljava/lang/String;)V" } : MethodName)) ∈ zz_BW := zz_tw 561 (by decide +kernel) (by decide +kernel)
theorem zw_562 : (Cond.code ({ cls := "java/lang/UnsupportedOperationException", name := "<init>", desc := "(Ljava/lang/String;)V" } : MethodName) prog_20_method_2_code (2 : Nat) (Option.none : Option Jvm.ClassFile.FieldType)) ∈ zz_BW := zz_tw 562 (by decide +kernel) (by decide +kernel)
theorem zw_563 : (Cond.methodLink "java/lang/UnsupportedOperationException" (7 : Nat) ({ cls := "java/lang/RuntimeException", name := "<init>", desc := "(Ljava/lang/String;)V" } : MethodName)) ∈ zz_BW := zz_tw 563 (by decide +kernel) (by decide +kernel)
theorem zw_564 : (Cond.lays "java/lang/UnsupportedOperationException" "java/lang/Throwable" "depth" "I") ∈ zz_BW := zz_tw 564 (by decide +kernel) (by decide +kernel)
theorem zw_565 : (Cond.superclass "java/lang/UnsupportedOperationException" "java/lang/RuntimeException") ∈ zz_BW := zz_tw 565 (by decide +kernel) (by decide +kernel)
theorem zw_566 : (Cond.methodLink "OpenFloorsLaw" (113 : Nat) ({ cls := "OpenFloorsLaw", name := "cancel", desc := "(LOpenFloors;I[J)I" } : MethodName)) ∈ zz_BW := zz_tw 566 (by decide +kernel) (by decide +kernel)
theorem zw_567 : (Cond.static ({ cls := "OpenFloorsLaw", name := "cancel", desc := "(LOpenFloors;I[J)I" } : MethodName)) ∈ zz_BW := zz_tw 567 (by decide +kernel) (by decide +kernel)
theorem zw_568 : (Cond.codeWith ({ cls := "OpenFloorsLaw", name := "cancel", desc := "(LOpenFloors;I[J)I" } : MethodName) method_8_code (4 : Nat) (Option.some FieldType.int) [((0 : Nat), (9 : Nat), (12 : Nat), (29 : Nat))]) ∈ zz_BW := zz_tw 568 (by decide +kernel) (by decide +kernel)
theorem zw_569 : (Cond.methodLink "OpenFloorsLaw" (36 : Nat) ({ cls := "OpenFloors", name := "cancel", desc := "(I)I" } : MethodName)) ∈ zz_BW := zz_tw 569 (by decide +kernel) (by decide +kernel)
theorem zw_570 : (Cond.instanceMethod ({ cls := "OpenFloors", name := "cancel", desc := "(I)I" } : MethodName)) ∈ zz_BW := zz_tw 570 (by decide +kernel) (by decide +kernel)
theorem zw_571 : (Cond.selects "OpenFloors" ({ cls := "OpenFloors", name := "cancel", desc := "(I)I" } : MethodName) ({ cls := "OpenFloors", name := "cancel", desc := "(I)I" } : MethodName)) ∈ zz_BW := zz_tw 571 (by decide +kernel) (by decide +kernel)
theorem zw_572 : (Cond.code ({ cls := "OpenFloors", name := "cancel", desc := "(I)I" } : MethodName) prog_1_method_7_code (4 : Nat) (Option.some FieldType.int)) ∈ zz_BW := zz_tw 572 (by decide +kernel) (by decide +kernel)
theorem zw_574 : (Cond.methodLink "OpenFloors" (117 : Nat) ({ cls := "OpenFloors", name := "removeBooking", desc := "(LOpenFloors$Person;)V" } : MethodName)) ∈ zz_BW := zz_tw 574 (by decide +kernel) (by decide +kernel)
theorem zw_576 : (Cond.instanceMethod ({ cls := "OpenFloors", name := "removeBooking", desc := "(LOpenFloors$Person;)V" } : MethodName)) ∈ zz_BW := zz_tw 576 (by decide +kernel) (by decide +kernel)
theorem zw_577 : (Cond.code ({ cls := "OpenFloors", name := "removeBooking", desc := "(LOpenFloors$Person;)V" } : MethodName) prog_1_method_36_code (3 : Nat) (Option.none : Option Jvm.ClassFile.FieldType)) ∈ zz_BW := zz_tw 577 (by decide +kernel) (by decide +kernel)
theorem zw_578 : (Cond.methodLink "OpenFloors" (247 : Nat) ({ cls := "java/util/ArrayList", name := "remove", desc := "(I)Ljava/lang/Object;" } : MethodName)) ∈ zz_BW := zz_tw 578 (by decide +kernel) (by decide +kernel)
theorem zw_579 : (Cond.instanceMethod ({ cls := "java/util/ArrayList", name := "remove", desc := "(I)Ljava/lang/Object;" } : MethodName)) ∈ zz_BW := zz_tw 579 (by decide +kernel) (by decide +kernel)
theorem zw_580 : (Cond.selects "java/util/ArrayList" ({ cls := "java/util/ArrayList", name := "remove", desc := "(I)Ljava/lang/Object;" } : MethodName) ({ cls := "java/util/ArrayList", name := "remove", desc := "(I)Ljava/lang/Object;" } : MethodName)) ∈ zz_BW := zz_tw 580 (by decide +kernel) (by decide +kernel)
theorem zw_581 : (Cond.code ({ cls := "java/util/ArrayList", name := "remove", desc := "(I)Ljava/lang/Object;" } : MethodName) prog_23_method_29_code (4 : Nat) (Option.some (FieldType.object "java/lang/Object"))) ∈ zz_BW := zz_tw 581 (by decide +kernel) (by decide +kernel)
theorem zw_582 : (Cond.methodLink "java/util/ArrayList" (144 : Nat) ({ cls := "java/util/ArrayList", name := "fastRemove", desc := "([Ljava/lang/Object;I)V" } : MethodName)) ∈ zz_BW := zz_tw 582 (by decide +kernel) (by decide +kernel)
theorem zw_584 : (Cond.instanceMethod ({ cls := "java/util/ArrayList", name := "fastRemove", desc := "([Ljava/lang/Object;I)V" } : MethodName)) ∈ zz_BW := zz_tw 584 (by decide +kernel) (by decide +kernel)
theorem zw_585 : (Cond.code ({ cls := "java/util/ArrayList", name := "fastRemove", desc := "([Ljava/lang/Object;I)V" } : MethodName) prog_23_method_39_code (4 : Nat) (Option.none : Option Jvm.ClassFile.FieldType)) ∈ zz_BW := zz_tw 585 (by decide +kernel) (by decide +kernel)
theorem zw_586 : (Cond.methodLink "java/util/ArrayList" (112 : Nat) ({ cls := "java/lang/System", name := "arraycopy", desc := "(Ljava/lang/Object;ILjava/lang/Object;II)V" } : MethodName)) ∈ zz_BW := zz_tw 586 (by decide +kernel) (by decide +kernel)
theorem zw_587 : (Cond.methodLink "OpenFloorsLaw" (120 : Nat) ({ cls := "OpenFloorsLaw", name := "bookingAt", desc := "(LOpenFloors;I[J)I" } : MethodName)) ∈ zz_BW := zz_tw 587 (by decide +kernel) (by decide +kernel)
theorem zw_588 : (Cond.static ({ cls := "OpenFloorsLaw", name := "bookingAt", desc := "(LOpenFloors;I[J)I" } : MethodName)) ∈ zz_BW := zz_tw 588 (by decide +kernel) (by decide +kernel)
theorem zw_589 : (Cond.codeWith ({ cls := "OpenFloorsLaw", name := "bookingAt", desc := "(LOpenFloors;I[J)I" } : MethodName) method_9_code (4 : Nat) (Option.some FieldType.int) [((0 : Nat), (9 : Nat), (12 : Nat), (20 : Nat))]) ∈ zz_BW := zz_tw 589 (by decide +kernel) (by decide +kernel)
theorem zw_590 : (Cond.methodLink "OpenFloorsLaw" (39 : Nat) ({ cls := "OpenFloors", name := "bookingAt", desc := "(I)I" } : MethodName)) ∈ zz_BW := zz_tw 590 (by decide +kernel) (by decide +kernel)
theorem zw_591 : (Cond.instanceMethod ({ cls := "OpenFloors", name := "bookingAt", desc := "(I)I" } : MethodName)) ∈ zz_BW := zz_tw 591 (by decide +kernel) (by decide +kernel)
theorem zw_592 : (Cond.selects "OpenFloors" ({ cls := "OpenFloors", name := "bookingAt", desc := "(I)I" } : MethodName) ({ cls := "OpenFloors", name := "bookingAt", desc := "(I)I" } : MethodName)) ∈ zz_BW := zz_tw 592 (by decide +kernel) (by decide +kernel)
theorem zw_593 : (Cond.code ({ cls := "OpenFloors", name := "bookingAt", desc := "(I)I" } : MethodName) prog_1_method_9_code (2 : Nat) (Option.some FieldType.int)) ∈ zz_BW := zz_tw 593 (by decide +kernel) (by decide +kernel)
theorem zw_595 : (Cond.methodLink "OpenFloorsLaw" (135 : Nat) ({ cls := "OpenFloorsLaw", name := "lossOf", desc := "(LOpenFloors;I[J)I" } : MethodName)) ∈ zz_BW := zz_tw 595 (by decide +kernel) (by decide +kernel)
theorem zw_596 : (Cond.static ({ cls := "OpenFloorsLaw", name := "lossOf", desc := "(LOpenFloors;I[J)I" } : MethodName)) ∈ zz_BW := zz_tw 596 (by decide +kernel) (by decide +kernel)
theorem zw_597 : (Cond.codeWith ({ cls := "OpenFloorsLaw", name := "lossOf", desc := "(LOpenFloors;I[J)I" } : MethodName) method_10_code (4 : Nat) (Option.some FieldType.int) [((0 : Nat), (9 : Nat), (12 : Nat), (13 : Nat)), ((0 : Nat), (9 : Nat), (15 : Nat), (34 : Nat))]) ∈ zz_BW := zz_tw 597 (by decide +kernel) (by decide +kernel)
theorem zw_598 : (Cond.methodLink "OpenFloorsLaw" (42 : Nat) ({ cls := "OpenFloors", name := "lossOf", desc := "(I)I" } : MethodName)) ∈ zz_BW := zz_tw 598 (by decide +kernel) (by decide +kernel)
theorem zw_599 : (Cond.instanceMethod ({ cls := "OpenFloors", name := "lossOf", desc := "(I)I" } : MethodName)) ∈ zz_BW := zz_tw 599 (by decide +kernel) (by decide +kernel)
theorem zw_600 : (Cond.selects "OpenFloors" ({ cls := "OpenFloors", name := "lossOf", desc := "(I)I" } : MethodName) ({ cls := "OpenFloors", name := "lossOf", desc := "(I)I" } : MethodName)) ∈ zz_BW := zz_tw 600 (by decide +kernel) (by decide +kernel)
theorem zw_601 : (Cond.code ({ cls := "OpenFloors", name := "lossOf", desc := "(I)I" } : MethodName) prog_1_method_13_code (2 : Nat) (Option.some FieldType.int)) ∈ zz_BW := zz_tw 601 (by decide +kernel) (by decide +kernel)
theorem zw_604 : (Cond.methodLink "OpenFloorsLaw" (138 : Nat) ({ cls := "OpenFloorsLaw", name := "nextDay", desc := "(LOpenFloors;[J)I" } : MethodName)) ∈ zz_BW := zz_tw 604 (by decide +kernel) (by decide +kernel)
theorem zw_605 : (Cond.static ({ cls := "OpenFloorsLaw", name := "nextDay", desc := "(LOpenFloors;[J)I" } : MethodName)) ∈ zz_BW := zz_tw 605 (by decide +kernel) (by decide +kernel)
theorem zw_606 : (Cond.codeWith ({ cls := "OpenFloorsLaw", name := "nextDay", desc := "(LOpenFloors;[J)I" } : MethodName) method_11_code (3 : Nat) (Option.some FieldType.int) [((0 : Nat), (8 : Nat), (11 : Nat), (15 : Nat))]) ∈ zz_BW := zz_tw 606 (by decide +kernel) (by decide +kernel)
theorem zw_607 : (Cond.methodLink "OpenFloorsLaw" (45 : Nat) ({ cls := "OpenFloors", name := "nextDay", desc := "()I" } : MethodName)) ∈ zz_BW := zz_tw 607 (by decide +kernel) (by decide +kernel)
theorem zw_608 : (Cond.instanceMethod ({ cls := "OpenFloors", name := "nextDay", desc := "()I" } : MethodName)) ∈ zz_BW := zz_tw 608 (by decide +kernel) (by decide +kernel)
theorem zw_609 : (Cond.selects "OpenFloors" ({ cls := "OpenFloors", name := "nextDay", desc := "()I" } : MethodName) ({ cls := "OpenFloors", name := "nextDay", desc := "()I" } : MethodName)) ∈ zz_BW := zz_tw 609 (by decide +kernel) (by decide +kernel)
theorem zw_610 : (Cond.code ({ cls := "OpenFloors", name := "nextDay", desc := "()I" } : MethodName) prog_1_method_14_code (2 : Nat) (Option.some FieldType.int)) ∈ zz_BW := zz_tw 610 (by decide +kernel) (by decide +kernel)
theorem zw_612 : (Cond.methodLink "OpenFloors" (151 : Nat) ({ cls := "OpenFloors", name := "countNoShows", desc := "()I" } : MethodName)) ∈ zz_BW := zz_tw 612 (by decide +kernel) (by decide +kernel)
theorem zw_614 : (Cond.instanceMethod ({ cls := "OpenFloors", name := "countNoShows", desc := "()I" } : MethodName)) ∈ zz_BW := zz_tw 614 (by decide +kernel) (by decide +kernel)
theorem zw_615 : (Cond.code ({ cls := "OpenFloors", name := "countNoShows", desc := "()I" } : MethodName) prog_1_method_46_code (3 : Nat) (Option.some FieldType.int)) ∈ zz_BW := zz_tw 615 (by decide +kernel) (by decide +kernel)
theorem zw_616 : (Cond.methodLink "OpenFloors" (289 : Nat) ({ cls := "OpenFloors$Person", name := "isNoShow", desc := "()Z" } : MethodName)) ∈ zz_BW := zz_tw 616 (by decide +kernel) (by decide +kernel)
theorem zw_617 : (Cond.instanceMethod ({ cls := "OpenFloors$Person", name := "isNoShow", desc := "()Z" } : MethodName)) ∈ zz_BW := zz_tw 617 (by decide +kernel) (by decide +kernel)
theorem zw_618 : (Cond.selects "OpenFloors$Person" ({ cls := "OpenFloors$Person", name := "isNoShow", desc := "()Z" } : MethodName) ({ cls := "OpenFloors$Person", name := "isNoShow", desc := "()Z" } : MethodName)) ∈ zz_BW := zz_tw 618 (by decide +kernel) (by decide +kernel)
theorem zw_619 : (Cond.code ({ cls := "OpenFloors$Person", name := "isNoShow", desc := "()Z" } : MethodName) prog_3_method_2_code (1 : Nat) (Option.some FieldType.boolean)) ∈ zz_BW := zz_tw 619 (by decide +kernel) (by decide +kernel)
theorem zw_620 : (Cond.methodLink "OpenFloors" (154 : Nat) ({ cls := "OpenFloors", name := "judgePeople", desc := "()V" } : MethodName)) ∈ zz_BW := zz_tw 620 (by decide +kernel) (by decide +kernel)
theorem zw_622 : (Cond.instanceMethod ({ cls := "OpenFloors", name := "judgePeople", desc := "()V" } : MethodName)) ∈ zz_BW := zz_tw 622 (by decide +kernel) (by decide +kernel)
theorem zw_623 : (Cond.code ({ cls := "OpenFloors", name := "judgePeople", desc := "()V" } : MethodName) prog_1_method_47_code (2 : Nat) (Option.none : Option Jvm.ClassFile.FieldType)) ∈ zz_BW := zz_tw 623 (by decide +kernel) (by decide +kernel)
theorem zw_624 : (Cond.methodLink "OpenFloors" (292 : Nat) ({ cls := "OpenFloors$Person", name := "judge", desc := "()V" } : MethodName)) ∈ zz_BW := zz_tw 624 (by decide +kernel) (by decide +kernel)
theorem zw_625 : (Cond.instanceMethod ({ cls := "OpenFloors$Person", name := "judge", desc := "()V" } : MethodName)) ∈ zz_BW := zz_tw 625 (by decide +kernel) (by decide +kernel)
theorem zw_626 : (Cond.selects "OpenFloors$Person" ({ cls := "OpenFloors$Person", name := "judge", desc := "()V" } : MethodName) ({ cls := "OpenFloors$Person", name := "judge", desc := "()V" } : MethodName)) ∈ zz_BW := zz_tw 626 (by decide +kernel) (by decide +kernel)
theorem zw_627 : (Cond.code ({ cls := "OpenFloors$Person", name := "judge", desc := "()V" } : MethodName) prog_3_method_3_code (2 : Nat) (Option.none : Option Jvm.ClassFile.FieldType)) ∈ zz_BW := zz_tw 627 (by decide +kernel) (by decide +kernel)
theorem zw_628 : (Cond.methodLink "OpenFloors$Person" (35 : Nat) ({ cls := "java/lang/Math", name := "min", desc := "(II)I" } : MethodName)) ∈ zz_BW := zz_tw 628 (by decide +kernel) (by decide +kernel)
theorem zw_629 : (Cond.methodLink "OpenFloors$Person" (41 : Nat) ({ cls := "java/lang/Math", name := "max", desc := "(II)I" } : MethodName)) ∈ zz_BW := zz_tw 629 (by decide +kernel) (by decide +kernel)
theorem zw_630 : (Cond.methodLink "OpenFloors" (157 : Nat) ({ cls := "OpenFloors", name := "cleanOpenFloors", desc := "()V" } : MethodName)) ∈ zz_BW := zz_tw 630 (by decide +kernel) (by decide +kernel)
theorem zw_632 : (Cond.instanceMethod ({ cls := "OpenFloors", name := "cleanOpenFloors", desc := "()V" } : MethodName)) ∈ zz_BW := zz_tw 632 (by decide +kernel) (by decide +kernel)
theorem zw_633 : (Cond.code ({ cls := "OpenFloors", name := "cleanOpenFloors", desc := "()V" } : MethodName) prog_1_method_48_code (3 : Nat) (Option.none : Option Jvm.ClassFile.FieldType)) ∈ zz_BW := zz_tw 633 (by decide +kernel) (by decide +kernel)
theorem zw_634 : (Cond.methodLink "OpenFloors" (295 : Nat) ({ cls := "OpenFloors", name := "countGuestsOf", desc := "(LOpenFloors$Floor;)I" } : MethodName)) ∈ zz_BW := zz_tw 634 (by decide +kernel) (by decide +kernel)
theorem zw_636 : (Cond.instanceMethod ({ cls := "OpenFloors", name := "countGuestsOf", desc := "(LOpenFloors$Floor;)I" } : MethodName)) ∈ zz_BW := zz_tw 636 (by decide +kernel) (by decide +kernel)
theorem zw_637 : (Cond.code ({ cls := "OpenFloors", name := "countGuestsOf", desc := "(LOpenFloors$Floor;)I" } : MethodName) prog_1_method_60_code (5 : Nat) (Option.some FieldType.int)) ∈ zz_BW := zz_tw 637 (by decide +kernel) (by decide +kernel)
theorem zw_638 : (Cond.methodLink "OpenFloors" (160 : Nat) ({ cls := "OpenFloors", name := "sendPeopleHome", desc := "()V" } : MethodName)) ∈ zz_BW := zz_tw 638 (by decide +kernel) (by decide +kernel)
theorem zw_640 : (Cond.instanceMethod ({ cls := "OpenFloors", name := "sendPeopleHome", desc := "()V" } : MethodName)) ∈ zz_BW := zz_tw 640 (by decide +kernel) (by decide +kernel)
theorem zw_641 : (Cond.code ({ cls := "OpenFloors", name := "sendPeopleHome", desc := "()V" } : MethodName) prog_1_method_49_code (2 : Nat) (Option.none : Option Jvm.ClassFile.FieldType)) ∈ zz_BW := zz_tw 641 (by decide +kernel) (by decide +kernel)
theorem zw_642 : (Cond.methodLink "OpenFloors" (298 : Nat) ({ cls := "OpenFloors$Person", name := "goHome", desc := "()V" } : MethodName)) ∈ zz_BW := zz_tw 642 (by decide +kernel) (by decide +kernel)
theorem zw_643 : (Cond.instanceMethod ({ cls := "OpenFloors$Person", name := "goHome", desc := "()V" } : MethodName)) ∈ zz_BW := zz_tw 643 (by decide +kernel) (by decide +kernel)
theorem zw_644 : (Cond.selects "OpenFloors$Person" ({ cls := "OpenFloors$Person", name := "goHome", desc := "()V" } : MethodName) ({ cls := "OpenFloors$Person", name := "goHome", desc := "()V" } : MethodName)) ∈ zz_BW := zz_tw 644 (by decide +kernel) (by decide +kernel)
theorem zw_645 : (Cond.code ({ cls := "OpenFloors$Person", name := "goHome", desc := "()V" } : MethodName) prog_3_method_4_code (1 : Nat) (Option.none : Option Jvm.ClassFile.FieldType)) ∈ zz_BW := zz_tw 645 (by decide +kernel) (by decide +kernel)
theorem zw_646 : (Cond.methodLink "OpenFloors" (166 : Nat) ({ cls := "OpenFloors", name := "openFloorsOf", desc := "(I)V" } : MethodName)) ∈ zz_BW := zz_tw 646 (by decide +kernel) (by decide +kernel)
theorem zw_648 : (Cond.instanceMethod ({ cls := "OpenFloors", name := "openFloorsOf", desc := "(I)V" } : MethodName)) ∈ zz_BW := zz_tw 648 (by decide +kernel) (by decide +kernel)
theorem zw_649 : (Cond.code ({ cls := "OpenFloors", name := "openFloorsOf", desc := "(I)V" } : MethodName) prog_1_method_50_code (4 : Nat) (Option.none : Option Jvm.ClassFile.FieldType)) ∈ zz_BW := zz_tw 649 (by decide +kernel) (by decide +kernel)
theorem zw_650 : (Cond.methodLink "OpenFloors" (169 : Nat) ({ cls := "OpenFloors", name := "giveSeats", desc := "()V" } : MethodName)) ∈ zz_BW := zz_tw 650 (by decide +kernel) (by decide +kernel)
theorem zw_652 : (Cond.instanceMethod ({ cls := "OpenFloors", name := "giveSeats", desc := "()V" } : MethodName)) ∈ zz_BW := zz_tw 652 (by decide +kernel) (by decide +kernel)
theorem zw_653 : (Cond.code ({ cls := "OpenFloors", name := "giveSeats", desc := "()V" } : MethodName) prog_1_method_51_code (4 : Nat) (Option.none : Option Jvm.ClassFile.FieldType)) ∈ zz_BW := zz_tw 653 (by decide +kernel) (by decide +kernel)
theorem zw_654 : (Cond.methodLink "OpenFloors" (301 : Nat) ({ cls := "OpenFloors", name := "giveSeat", desc := "(LOpenFloors$Person;)V" } : MethodName)) ∈ zz_BW := zz_tw 654 (by decide +kernel) (by decide +kernel)
theorem zw_656 : (Cond.instanceMethod ({ cls := "OpenFloors", name := "giveSeat", desc := "(LOpenFloors$Person;)V" } : MethodName)) ∈ zz_BW := zz_tw 656 (by decide +kernel) (by decide +kernel)
theorem zw_657 : (Cond.code ({ cls := "OpenFloors", name := "giveSeat", desc := "(LOpenFloors$Person;)V" } : MethodName) prog_1_method_52_code (6 : Nat) (Option.none : Option Jvm.ClassFile.FieldType)) ∈ zz_BW := zz_tw 657 (by decide +kernel) (by decide +kernel)
theorem zw_658 : (Cond.methodLink "OpenFloors" (304 : Nat) ({ cls := "OpenFloors", name := "suitsBetter", desc := "(LOpenFloors$Person;LOpenFloors$Floor;LOpenFloors$Floor;)Z" } : MethodName)) ∈ zz_BW := zz_tw 658 (by decide +kernel) (by decide +kernel)
theorem zw_660 : (Cond.instanceMethod ({ cls := "OpenFloors", name := "suitsBetter", desc := "(LOpenFloors$Person;LOpenFloors$Floor;LOpenFloors$Floor;)Z" } : MethodName)) ∈ zz_BW := zz_tw 660 (by decide +kernel) (by decide +kernel)
theorem zw_661 : (Cond.code ({ cls := "OpenFloors", name := "suitsBetter", desc := "(LOpenFloors$Person;LOpenFloors$Floor;LOpenFloors$Floor;)Z" } : MethodName) prog_1_method_53_code (6 : Nat) (Option.some FieldType.boolean)) ∈ zz_BW := zz_tw 661 (by decide +kernel) (by decide +kernel)
theorem zw_662 : (Cond.methodLink "OpenFloors" (197 : Nat) ({ cls := "OpenFloors", name := "countTeamOn", desc := "(ILOpenFloors$Floor;)I" } : MethodName)) ∈ zz_BW := zz_tw 662 (by decide +kernel) (by decide +kernel)
theorem zw_664 : (Cond.instanceMethod ({ cls := "OpenFloors", name := "countTeamOn", desc := "(ILOpenFloors$Floor;)I" } : MethodName)) ∈ zz_BW := zz_tw 664 (by decide +kernel) (by decide +kernel)
theorem zw_665 : (Cond.code ({ cls := "OpenFloors", name := "countTeamOn", desc := "(ILOpenFloors$Floor;)I" } : MethodName) prog_1_method_58_code (6 : Nat) (Option.some FieldType.int)) ∈ zz_BW := zz_tw 665 (by decide +kernel) (by decide +kernel)
theorem zw_666 : (Cond.methodLink "OpenFloors" (172 : Nat) ({ cls := "OpenFloors", name := "dropBookings", desc := "()V" } : MethodName)) ∈ zz_BW := zz_tw 666 (by decide +kernel) (by decide +kernel)
theorem zw_668 : (Cond.instanceMethod ({ cls := "OpenFloors", name := "dropBookings", desc := "()V" } : MethodName)) ∈ zz_BW := zz_tw 668 (by decide +kernel) (by decide +kernel)
theorem zw_669 : (Cond.code ({ cls := "OpenFloors", name := "dropBookings", desc := "()V" } : MethodName) prog_1_method_54_code (2 : Nat) (Option.none : Option Jvm.ClassFile.FieldType)) ∈ zz_BW := zz_tw 669 (by decide +kernel) (by decide +kernel)
theorem zw_670 : (Cond.methodLink "OpenFloors" (311 : Nat) ({ cls := "java/util/ArrayList", name := "clear", desc := "()V" } : MethodName)) ∈ zz_BW := zz_tw 670 (by decide +kernel) (by decide +kernel)
theorem zw_671 : (Cond.instanceMethod ({ cls := "java/util/ArrayList", name := "clear", desc := "()V" } : MethodName)) ∈ zz_BW := zz_tw 671 (by decide +kernel) (by decide +kernel)
theorem zw_672 : (Cond.selects "java/util/ArrayList" ({ cls := "java/util/ArrayList", name := "clear", desc := "()V" } : MethodName) ({ cls := "java/util/ArrayList", name := "clear", desc := "()V" } : MethodName)) ∈ zz_BW := zz_tw 672 (by decide +kernel) (by decide +kernel)
theorem zw_673 : (Cond.code ({ cls := "java/util/ArrayList", name := "clear", desc := "()V" } : MethodName) prog_23_method_40_code (4 : Nat) (Option.none : Option Jvm.ClassFile.FieldType)) ∈ zz_BW := zz_tw 673 (by decide +kernel) (by decide +kernel)
theorem zw_674 : (Cond.methodLink "OpenFloorsLaw" (146 : Nat) ({ cls := "OpenFloorsLaw", name := "comeIn", desc := "(LOpenFloors;I[J)I" } : MethodName)) ∈ zz_BW := zz_tw 674 (by decide +kernel) (by decide +kernel)
theorem zw_675 : (Cond.static ({ cls := "OpenFloorsLaw", name := "comeIn", desc := "(LOpenFloors;I[J)I" } : MethodName)) ∈ zz_BW := zz_tw 675 (by decide +kernel) (by decide +kernel)
theorem zw_676 : (Cond.codeWith ({ cls := "OpenFloorsLaw", name := "comeIn", desc := "(LOpenFloors;I[J)I" } : MethodName) method_12_code (4 : Nat) (Option.some FieldType.int) [((0 : Nat), (9 : Nat), (12 : Nat), (29 : Nat)), ((0 : Nat), (9 : Nat), (15 : Nat), (15 : Nat))]) ∈ zz_BW := zz_tw 676 (by decide +kernel) (by decide +kernel)
theorem zw_677 : (Cond.methodLink "OpenFloorsLaw" (49 : Nat) ({ cls := "OpenFloors", name := "comeIn", desc := "(I)I" } : MethodName)) ∈ zz_BW := zz_tw 677 (by decide +kernel) (by decide +kernel)
theorem zw_678 : (Cond.instanceMethod ({ cls := "OpenFloors", name := "comeIn", desc := "(I)I" } : MethodName)) ∈ zz_BW := zz_tw 678 (by decide +kernel) (by decide +kernel)
theorem zw_679 : (Cond.selects "OpenFloors" ({ cls := "OpenFloors", name := "comeIn", desc := "(I)I" } : MethodName) ({ cls := "OpenFloors", name := "comeIn", desc := "(I)I" } : MethodName)) ∈ zz_BW := zz_tw 679 (by decide +kernel) (by decide +kernel)
theorem zw_680 : (Cond.code ({ cls := "OpenFloors", name := "comeIn", desc := "(I)I" } : MethodName) prog_1_method_16_code (4 : Nat) (Option.some FieldType.int)) ∈ zz_BW := zz_tw 680 (by decide +kernel) (by decide +kernel)
theorem zw_683 : (Cond.methodLink "OpenFloorsLaw" (149 : Nat) ({ cls := "OpenFloorsLaw", name := "leave", desc := "(LOpenFloors;I[J)I" } : MethodName)) ∈ zz_BW := zz_tw 683 (by decide +kernel) (by decide +kernel)
theorem zw_684 : (Cond.static ({ cls := "OpenFloorsLaw", name := "leave", desc := "(LOpenFloors;I[J)I" } : MethodName)) ∈ zz_BW := zz_tw 684 (by decide +kernel) (by decide +kernel)
theorem zw_685 : (Cond.codeWith ({ cls := "OpenFloorsLaw", name := "leave", desc := "(LOpenFloors;I[J)I" } : MethodName) method_13_code (4 : Nat) (Option.some FieldType.int) [((0 : Nat), (9 : Nat), (12 : Nat), (29 : Nat)), ((0 : Nat), (9 : Nat), (15 : Nat), (15 : Nat))]) ∈ zz_BW := zz_tw 685 (by decide +kernel) (by decide +kernel)
theorem zw_686 : (Cond.methodLink "OpenFloorsLaw" (52 : Nat) ({ cls := "OpenFloors", name := "leave", desc := "(I)I" } : MethodName)) ∈ zz_BW := zz_tw 686 (by decide +kernel) (by decide +kernel)
theorem zw_687 : (Cond.instanceMethod ({ cls := "OpenFloors", name := "leave", desc := "(I)I" } : MethodName)) ∈ zz_BW := zz_tw 687 (by decide +kernel) (by decide +kernel)
theorem zw_688 : (Cond.selects "OpenFloors" ({ cls := "OpenFloors", name := "leave", desc := "(I)I" } : MethodName) ({ cls := "OpenFloors", name := "leave", desc := "(I)I" } : MethodName)) ∈ zz_BW := zz_tw 688 (by decide +kernel) (by decide +kernel)
theorem zw_689 : (Cond.code ({ cls := "OpenFloors", name := "leave", desc := "(I)I" } : MethodName) prog_1_method_17_code (3 : Nat) (Option.some FieldType.int)) ∈ zz_BW := zz_tw 689 (by decide +kernel) (by decide +kernel)
theorem zw_691 : (Cond.methodLink "OpenFloors" (191 : Nat) ({ cls := "OpenFloors", name := "countPeopleIn", desc := "()I" } : MethodName)) ∈ zz_BW := zz_tw 691 (by decide +kernel) (by decide +kernel)
theorem zw_693 : (Cond.instanceMethod ({ cls := "OpenFloors", name := "countPeopleIn", desc := "()I" } : MethodName)) ∈ zz_BW := zz_tw 693 (by decide +kernel) (by decide +kernel)
theorem zw_694 : (Cond.code ({ cls := "OpenFloors", name := "countPeopleIn", desc := "()I" } : MethodName) prog_1_method_56_code (3 : Nat) (Option.some FieldType.int)) ∈ zz_BW := zz_tw 694 (by decide +kernel) (by decide +kernel)
theorem zw_695 : (Cond.methodLink "OpenFloorsLaw" (152 : Nat) ({ cls := "OpenFloorsLaw", name := "seatOf", desc := "(LOpenFloors;I[J)I" } : MethodName)) ∈ zz_BW := zz_tw 695 (by decide +kernel) (by decide +kernel)
theorem zw_696 : (Cond.static ({ cls := "OpenFloorsLaw", name := "seatOf", desc := "(LOpenFloors;I[J)I" } : MethodName)) ∈ zz_BW := zz_tw 696 (by decide +kernel) (by decide +kernel)
theorem zw_697 : (Cond.codeWith ({ cls := "OpenFloorsLaw", name := "seatOf", desc := "(LOpenFloors;I[J)I" } : MethodName) method_14_code (4 : Nat) (Option.some FieldType.int) [((0 : Nat), (9 : Nat), (12 : Nat), (29 : Nat))]) ∈ zz_BW := zz_tw 697 (by decide +kernel) (by decide +kernel)
theorem zw_698 : (Cond.methodLink "OpenFloorsLaw" (55 : Nat) ({ cls := "OpenFloors", name := "seatOf", desc := "(I)I" } : MethodName)) ∈ zz_BW := zz_tw 698 (by decide +kernel) (by decide +kernel)
theorem zw_699 : (Cond.instanceMethod ({ cls := "OpenFloors", name := "seatOf", desc := "(I)I" } : MethodName)) ∈ zz_BW := zz_tw 699 (by decide +kernel) (by decide +kernel)
theorem zw_700 : (Cond.selects "OpenFloors" ({ cls := "OpenFloors", name := "seatOf", desc := "(I)I" } : MethodName) ({ cls := "OpenFloors", name := "seatOf", desc := "(I)I" } : MethodName)) ∈ zz_BW := zz_tw 700 (by decide +kernel) (by decide +kernel)
theorem zw_701 : (Cond.code ({ cls := "OpenFloors", name := "seatOf", desc := "(I)I" } : MethodName) prog_1_method_18_code (3 : Nat) (Option.some FieldType.int)) ∈ zz_BW := zz_tw 701 (by decide +kernel) (by decide +kernel)
theorem zw_702 : (Cond.methodLink "OpenFloorsLaw" (155 : Nat) ({ cls := "OpenFloorsLaw", name := "isIn", desc := "(LOpenFloors;I[J)I" } : MethodName)) ∈ zz_BW := zz_tw 702 (by decide +kernel) (by decide +kernel)
theorem zw_703 : (Cond.static ({ cls := "OpenFloorsLaw", name := "isIn", desc := "(LOpenFloors;I[J)I" } : MethodName)) ∈ zz_BW := zz_tw 703 (by decide +kernel) (by decide +kernel)
theorem zw_704 : (Cond.codeWith ({ cls := "OpenFloorsLaw", name := "isIn", desc := "(LOpenFloors;I[J)I" } : MethodName) method_15_code (4 : Nat) (Option.some FieldType.int) [((0 : Nat), (16 : Nat), (19 : Nat), (29 : Nat))]) ∈ zz_BW := zz_tw 704 (by decide +kernel) (by decide +kernel)
theorem zw_705 : (Cond.methodLink "OpenFloorsLaw" (58 : Nat) ({ cls := "OpenFloors", name := "isIn", desc := "(I)Z" } : MethodName)) ∈ zz_BW := zz_tw 705 (by decide +kernel) (by decide +kernel)
theorem zw_706 : (Cond.instanceMethod ({ cls := "OpenFloors", name := "isIn", desc := "(I)Z" } : MethodName)) ∈ zz_BW := zz_tw 706 (by decide +kernel) (by decide +kernel)
theorem zw_707 : (Cond.selects "OpenFloors" ({ cls := "OpenFloors", name := "isIn", desc := "(I)Z" } : MethodName) ({ cls := "OpenFloors", name := "isIn", desc := "(I)Z" } : MethodName)) ∈ zz_BW := zz_tw 707 (by decide +kernel) (by decide +kernel)
theorem zw_708 : (Cond.code ({ cls := "OpenFloors", name := "isIn", desc := "(I)Z" } : MethodName) prog_1_method_19_code (2 : Nat) (Option.some FieldType.boolean)) ∈ zz_BW := zz_tw 708 (by decide +kernel) (by decide +kernel)
theorem zw_709 : (Cond.methodLink "OpenFloorsLaw" (158 : Nat) ({ cls := "OpenFloorsLaw", name := "isOpen", desc := "(LOpenFloors;I[J)I" } : MethodName)) ∈ zz_BW := zz_tw 709 (by decide +kernel) (by decide +kernel)
theorem zw_710 : (Cond.static ({ cls := "OpenFloorsLaw", name := "isOpen", desc := "(LOpenFloors;I[J)I" } : MethodName)) ∈ zz_BW := zz_tw 710 (by decide +kernel) (by decide +kernel)
theorem zw_711 : (Cond.codeWith ({ cls := "OpenFloorsLaw", name := "isOpen", desc := "(LOpenFloors;I[J)I" } : MethodName) method_16_code (4 : Nat) (Option.some FieldType.int) [((0 : Nat), (16 : Nat), (19 : Nat), (20 : Nat))]) ∈ zz_BW := zz_tw 711 (by decide +kernel) (by decide +kernel)
theorem zw_712 : (Cond.methodLink "OpenFloorsLaw" (62 : Nat) ({ cls := "OpenFloors", name := "isOpen", desc := "(I)Z" } : MethodName)) ∈ zz_BW := zz_tw 712 (by decide +kernel) (by decide +kernel)
theorem zw_713 : (Cond.instanceMethod ({ cls := "OpenFloors", name := "isOpen", desc := "(I)Z" } : MethodName)) ∈ zz_BW := zz_tw 713 (by decide +kernel) (by decide +kernel)
theorem zw_714 : (Cond.selects "OpenFloors" ({ cls := "OpenFloors", name := "isOpen", desc := "(I)Z" } : MethodName) ({ cls := "OpenFloors", name := "isOpen", desc := "(I)Z" } : MethodName)) ∈ zz_BW := zz_tw 714 (by decide +kernel) (by decide +kernel)
theorem zw_715 : (Cond.code ({ cls := "OpenFloors", name := "isOpen", desc := "(I)Z" } : MethodName) prog_1_method_20_code (2 : Nat) (Option.some FieldType.boolean)) ∈ zz_BW := zz_tw 715 (by decide +kernel) (by decide +kernel)
theorem zw_716 : (Cond.methodLink "OpenFloorsLaw" (161 : Nat) ({ cls := "OpenFloorsLaw", name := "seated", desc := "(LOpenFloors;II[J)I" } : MethodName)) ∈ zz_BW := zz_tw 716 (by decide +kernel) (by decide +kernel)
theorem zw_717 : (Cond.static ({ cls := "OpenFloorsLaw", name := "seated", desc := "(LOpenFloors;II[J)I" } : MethodName)) ∈ zz_BW := zz_tw 717 (by decide +kernel) (by decide +kernel)
theorem zw_718 : (Cond.codeWith ({ cls := "OpenFloorsLaw", name := "seated", desc := "(LOpenFloors;II[J)I" } : MethodName) method_17_code (5 : Nat) (Option.some FieldType.int) [((0 : Nat), (10 : Nat), (13 : Nat), (20 : Nat)), ((0 : Nat), (10 : Nat), (17 : Nat), (13 : Nat))]) ∈ zz_BW := zz_tw 718 (by decide +kernel) (by decide +kernel)
theorem zw_719 : (Cond.methodLink "OpenFloorsLaw" (65 : Nat) ({ cls := "OpenFloors", name := "seated", desc := "(II)I" } : MethodName)) ∈ zz_BW := zz_tw 719 (by decide +kernel) (by decide +kernel)
theorem zw_720 : (Cond.instanceMethod ({ cls := "OpenFloors", name := "seated", desc := "(II)I" } : MethodName)) ∈ zz_BW := zz_tw 720 (by decide +kernel) (by decide +kernel)
theorem zw_721 : (Cond.selects "OpenFloors" ({ cls := "OpenFloors", name := "seated", desc := "(II)I" } : MethodName) ({ cls := "OpenFloors", name := "seated", desc := "(II)I" } : MethodName)) ∈ zz_BW := zz_tw 721 (by decide +kernel) (by decide +kernel)
theorem zw_722 : (Cond.code ({ cls := "OpenFloors", name := "seated", desc := "(II)I" } : MethodName) prog_1_method_21_code (4 : Nat) (Option.some FieldType.int)) ∈ zz_BW := zz_tw 722 (by decide +kernel) (by decide +kernel)
theorem zw_723 : (Cond.methodLink "OpenFloorsLaw" (164 : Nat) ({ cls := "OpenFloorsLaw", name := "pass", desc := "(LOpenFloors;I[J)I" } : MethodName)) ∈ zz_BW := zz_tw 723 (by decide +kernel) (by decide +kernel)
theorem zw_724 : (Cond.static ({ cls := "OpenFloorsLaw", name := "pass", desc := "(LOpenFloors;I[J)I" } : MethodName)) ∈ zz_BW := zz_tw 724 (by decide +kernel) (by decide +kernel)
theorem zw_725 : (Cond.codeWith ({ cls := "OpenFloorsLaw", name := "pass", desc := "(LOpenFloors;I[J)I" } : MethodName) method_18_code (4 : Nat) (Option.some FieldType.int) [((0 : Nat), (9 : Nat), (12 : Nat), (13 : Nat))]) ∈ zz_BW := zz_tw 725 (by decide +kernel) (by decide +kernel)
theorem zw_726 : (Cond.methodLink "OpenFloorsLaw" (68 : Nat) ({ cls := "OpenFloors", name := "pass", desc := "(I)I" } : MethodName)) ∈ zz_BW := zz_tw 726 (by decide +kernel) (by decide +kernel)
theorem zw_727 : (Cond.instanceMethod ({ cls := "OpenFloors", name := "pass", desc := "(I)I" } : MethodName)) ∈ zz_BW := zz_tw 727 (by decide +kernel) (by decide +kernel)
theorem zw_728 : (Cond.selects "OpenFloors" ({ cls := "OpenFloors", name := "pass", desc := "(I)I" } : MethodName) ({ cls := "OpenFloors", name := "pass", desc := "(I)I" } : MethodName)) ∈ zz_BW := zz_tw 728 (by decide +kernel) (by decide +kernel)
theorem zw_729 : (Cond.code ({ cls := "OpenFloors", name := "pass", desc := "(I)I" } : MethodName) prog_1_method_22_code (5 : Nat) (Option.some FieldType.int)) ∈ zz_BW := zz_tw 729 (by decide +kernel) (by decide +kernel)
theorem zw_731 : (Cond.methodLink "OpenFloors" (203 : Nat) ({ cls := "OpenFloors", name := "passHourOn", desc := "(LOpenFloors$Floor;)I" } : MethodName)) ∈ zz_BW := zz_tw 731 (by decide +kernel) (by decide +kernel)
theorem zw_733 : (Cond.instanceMethod ({ cls := "OpenFloors", name := "passHourOn", desc := "(LOpenFloors$Floor;)I" } : MethodName)) ∈ zz_BW := zz_tw 733 (by decide +kernel) (by decide +kernel)
theorem zw_734 : (Cond.code ({ cls := "OpenFloors", name := "passHourOn", desc := "(LOpenFloors$Floor;)I" } : MethodName) prog_1_method_55_code (4 : Nat) (Option.some FieldType.int)) ∈ zz_BW := zz_tw 734 (by decide +kernel) (by decide +kernel)
theorem zw_735 : (Cond.methodLink "OpenFloors" (314 : Nat) ({ cls := "OpenFloors", name := "countPresentOn", desc := "(LOpenFloors$Floor;)I" } : MethodName)) ∈ zz_BW := zz_tw 735 (by decide +kernel) (by decide +kernel)
theorem zw_737 : (Cond.instanceMethod ({ cls := "OpenFloors", name := "countPresentOn", desc := "(LOpenFloors$Floor;)I" } : MethodName)) ∈ zz_BW := zz_tw 737 (by decide +kernel) (by decide +kernel)
theorem zw_738 : (Cond.code ({ cls := "OpenFloors", name := "countPresentOn", desc := "(LOpenFloors$Floor;)I" } : MethodName) prog_1_method_59_code (5 : Nat) (Option.some FieldType.int)) ∈ zz_BW := zz_tw 738 (by decide +kernel) (by decide +kernel)
theorem zw_739 : (Cond.methodLink "OpenFloors" (317 : Nat) ({ cls := "OpenFloors$Floor", name := "followWarmth", desc := "(I)I" } : MethodName)) ∈ zz_BW := zz_tw 739 (by decide +kernel) (by decide +kernel)
theorem zw_740 : (Cond.instanceMethod ({ cls := "OpenFloors$Floor", name := "followWarmth", desc := "(I)I" } : MethodName)) ∈ zz_BW := zz_tw 740 (by decide +kernel) (by decide +kernel)
theorem zw_741 : (Cond.selects "OpenFloors$Floor" ({ cls := "OpenFloors$Floor", name := "followWarmth", desc := "(I)I" } : MethodName) ({ cls := "OpenFloors$Floor", name := "followWarmth", desc := "(I)I" } : MethodName)) ∈ zz_BW := zz_tw 741 (by decide +kernel) (by decide +kernel)
theorem zw_742 : (Cond.code ({ cls := "OpenFloors$Floor", name := "followWarmth", desc := "(I)I" } : MethodName) prog_2_method_8_code (4 : Nat) (Option.some FieldType.int)) ∈ zz_BW := zz_tw 742 (by decide +kernel) (by decide +kernel)
theorem zw_743 : (Cond.methodLink "OpenFloors" (320 : Nat) ({ cls := "OpenFloors$Floor", name := "followAir", desc := "(I)V" } : MethodName)) ∈ zz_BW := zz_tw 743 (by decide +kernel) (by decide +kernel)
theorem zw_744 : (Cond.instanceMethod ({ cls := "OpenFloors$Floor", name := "followAir", desc := "(I)V" } : MethodName)) ∈ zz_BW := zz_tw 744 (by decide +kernel) (by decide +kernel)
theorem zw_745 : (Cond.selects "OpenFloors$Floor" ({ cls := "OpenFloors$Floor", name := "followAir", desc := "(I)V" } : MethodName) ({ cls := "OpenFloors$Floor", name := "followAir", desc := "(I)V" } : MethodName)) ∈ zz_BW := zz_tw 745 (by decide +kernel) (by decide +kernel)
theorem zw_746 : (Cond.code ({ cls := "OpenFloors$Floor", name := "followAir", desc := "(I)V" } : MethodName) prog_2_method_9_code (3 : Nat) (Option.none : Option Jvm.ClassFile.FieldType)) ∈ zz_BW := zz_tw 746 (by decide +kernel) (by decide +kernel)
theorem zw_747 : (Cond.methodLink "OpenFloors$Floor" (46 : Nat) ({ cls := "java/lang/Math", name := "max", desc := "(II)I" } : MethodName)) ∈ zz_BW := zz_tw 747 (by decide +kernel) (by decide +kernel)
theorem zw_748 : (Cond.methodLink "OpenFloors" (323 : Nat) ({ cls := "OpenFloors$Floor", name := "discomfortOfOnePerson", desc := "()I" } : MethodName)) ∈ zz_BW := zz_tw 748 (by decide +kernel) (by decide +kernel)
theorem zw_749 : (Cond.instanceMethod ({ cls := "OpenFloors$Floor", name := "discomfortOfOnePerson", desc := "()I" } : MethodName)) ∈ zz_BW := zz_tw 749 (by decide +kernel) (by decide +kernel)
theorem zw_750 : (Cond.selects "OpenFloors$Floor" ({ cls := "OpenFloors$Floor", name := "discomfortOfOnePerson", desc := "()I" } : MethodName) ({ cls := "OpenFloors$Floor", name := "discomfortOfOnePerson", desc := "()I" } : MethodName)) ∈ zz_BW := zz_tw 750 (by decide +kernel) (by decide +kernel)
theorem zw_751 : (Cond.code ({ cls := "OpenFloors$Floor", name := "discomfortOfOnePerson", desc := "()I" } : MethodName) prog_2_method_10_code (2 : Nat) (Option.some FieldType.int)) ∈ zz_BW := zz_tw 751 (by decide +kernel) (by decide +kernel)
theorem zw_752 : (Cond.methodLink "OpenFloorsLaw" (167 : Nat) ({ cls := "OpenFloorsLaw", name := "warmth", desc := "(LOpenFloors;I[J)I" } : MethodName)) ∈ zz_BW := zz_tw 752 (by decide +kernel) (by decide +kernel)
theorem zw_753 : (Cond.static ({ cls := "OpenFloorsLaw", name := "warmth", desc := "(LOpenFloors;I[J)I" } : MethodName)) ∈ zz_BW := zz_tw 753 (by decide +kernel) (by decide +kernel)
theorem zw_754 : (Cond.codeWith ({ cls := "OpenFloorsLaw", name := "warmth", desc := "(LOpenFloors;I[J)I" } : MethodName) method_19_code (4 : Nat) (Option.some FieldType.int) [((0 : Nat), (9 : Nat), (12 : Nat), (20 : Nat))]) ∈ zz_BW := zz_tw 754 (by decide +kernel) (by decide +kernel)
theorem zw_755 : (Cond.methodLink "OpenFloorsLaw" (71 : Nat) ({ cls := "OpenFloors", name := "warmth", desc := "(I)I" } : MethodName)) ∈ zz_BW := zz_tw 755 (by decide +kernel) (by decide +kernel)
theorem zw_756 : (Cond.instanceMethod ({ cls := "OpenFloors", name := "warmth", desc := "(I)I" } : MethodName)) ∈ zz_BW := zz_tw 756 (by decide +kernel) (by decide +kernel)
theorem zw_757 : (Cond.selects "OpenFloors" ({ cls := "OpenFloors", name := "warmth", desc := "(I)I" } : MethodName) ({ cls := "OpenFloors", name := "warmth", desc := "(I)I" } : MethodName)) ∈ zz_BW := zz_tw 757 (by decide +kernel) (by decide +kernel)
theorem zw_758 : (Cond.code ({ cls := "OpenFloors", name := "warmth", desc := "(I)I" } : MethodName) prog_1_method_23_code (2 : Nat) (Option.some FieldType.int)) ∈ zz_BW := zz_tw 758 (by decide +kernel) (by decide +kernel)
theorem zw_759 : (Cond.methodLink "OpenFloorsLaw" (170 : Nat) ({ cls := "OpenFloorsLaw", name := "air", desc := "(LOpenFloors;I[J)I" } : MethodName)) ∈ zz_BW := zz_tw 759 (by decide +kernel) (by decide +kernel)
theorem zw_760 : (Cond.static ({ cls := "OpenFloorsLaw", name := "air", desc := "(LOpenFloors;I[J)I" } : MethodName)) ∈ zz_BW := zz_tw 760 (by decide +kernel) (by decide +kernel)
theorem zw_761 : (Cond.codeWith ({ cls := "OpenFloorsLaw", name := "air", desc := "(LOpenFloors;I[J)I" } : MethodName) method_20_code (4 : Nat) (Option.some FieldType.int) [((0 : Nat), (9 : Nat), (12 : Nat), (20 : Nat))]) ∈ zz_BW := zz_tw 761 (by decide +kernel) (by decide +kernel)
theorem zw_762 : (Cond.methodLink "OpenFloorsLaw" (74 : Nat) ({ cls := "OpenFloors", name := "air", desc := "(I)I" } : MethodName)) ∈ zz_BW := zz_tw 762 (by decide +kernel) (by decide +kernel)
theorem zw_763 : (Cond.instanceMethod ({ cls := "OpenFloors", name := "air", desc := "(I)I" } : MethodName)) ∈ zz_BW := zz_tw 763 (by decide +kernel) (by decide +kernel)
theorem zw_764 : (Cond.selects "OpenFloors" ({ cls := "OpenFloors", name := "air", desc := "(I)I" } : MethodName) ({ cls := "OpenFloors", name := "air", desc := "(I)I" } : MethodName)) ∈ zz_BW := zz_tw 764 (by decide +kernel) (by decide +kernel)
theorem zw_765 : (Cond.code ({ cls := "OpenFloors", name := "air", desc := "(I)I" } : MethodName) prog_1_method_24_code (2 : Nat) (Option.some FieldType.int)) ∈ zz_BW := zz_tw 765 (by decide +kernel) (by decide +kernel)
theorem zw_766 : (Cond.methodLink "OpenFloorsLaw" (190 : Nat) ({ cls := "OpenFloorsLaw", name := "meanStanding", desc := "(LOpenFloors;[D)I" } : MethodName)) ∈ zz_BW := zz_tw 766 (by decide +kernel) (by decide +kernel)
theorem zw_767 : (Cond.static ({ cls := "OpenFloorsLaw", name := "meanStanding", desc := "(LOpenFloors;[D)I" } : MethodName)) ∈ zz_BW := zz_tw 767 (by decide +kernel) (by decide +kernel)
theorem zw_768 : (Cond.codeWith ({ cls := "OpenFloorsLaw", name := "meanStanding", desc := "(LOpenFloors;[D)I" } : MethodName) method_21_code (3 : Nat) (Option.some FieldType.int) [((0 : Nat), (7 : Nat), (10 : Nat), (81 : Nat))]) ∈ zz_BW := zz_tw 768 (by decide +kernel) (by decide +kernel)
theorem zw_769 : (Cond.classLink "OpenFloorsLaw" (81 : Nat) "java/lang/ArithmeticException") ∈ zz_BW := zz_tw 769 (by decide +kernel) (by decide +kernel)
theorem zw_770 : (Cond.instantiable "java/lang/ArithmeticException" (6 : Nat)) ∈ zz_BW := zz_tw 770 (by decide +kernel) (by decide +kernel)
theorem zw_771 : (Cond.instanceMethod ({ cls := "java/lang/ArithmeticException", name := "<init>", desc := "(Ljava/lang/String;)V" } : MethodName)) ∈ zz_BW := zz_tw 771 (by decide +kernel) (by decide +kernel)
theorem zw_772 : (Cond.code ({ cls := "java/lang/ArithmeticException", name := "<init>", desc := "(Ljava/lang/String;)V" } : MethodName) prog_7_method_2_code (2 : Nat) (Option.none : Option Jvm.ClassFile.FieldType)) ∈ zz_BW := zz_tw 772 (by decide +kernel) (by decide +kernel)
theorem zw_773 : (Cond.methodLink "java/lang/ArithmeticException" (7 : Nat) ({ cls := "java/lang/RuntimeException", name := "<init>", desc := "(Ljava/lang/String;)V" } : MethodName)) ∈ zz_BW := zz_tw 773 (by decide +kernel) (by decide +kernel)
theorem zw_774 : (Cond.lays "java/lang/ArithmeticException" "java/lang/Throwable" "backtrace" "Ljava/lang/Object;") ∈ zz_BW := zz_tw 774 (by decide +kernel) (by decide +kernel)
theorem zw_775 : (Cond.lays "java/lang/ArithmeticException" "java/lang/Throwable" "detailMessage" "Ljava/lang/String;") ∈ zz_BW := zz_tw 775 (by decide +kernel) (by decide +kernel)
theorem zw_776 : (Cond.lays "java/lang/ArithmeticException" "java/lang/Throwable" "cause" "Ljava/lang/Throwable;") ∈ zz_BW := zz_tw 776 (by decide +kernel) (by decide +kernel)
theorem zw_777 : (Cond.lays "java/lang/ArithmeticException" "java/lang/Throwable" "stackTrace" "[Ljava/lang/StackTraceElement;") ∈ zz_BW := zz_tw 777 (by decide +kernel) (by decide +kernel)
theorem zw_778 : (Cond.lays "java/lang/ArithmeticException" "java/lang/Throwable" "depth" "I") ∈ zz_BW := zz_tw 778 (by decide +kernel) (by decide +kernel)
theorem zw_779 : (Cond.lays "java/lang/ArithmeticException" "java/lang/Throwable" "suppressedExceptions" "Ljava/util/List;") ∈ zz_BW := zz_tw 779 (by decide +kernel) (by decide +kernel)
theorem zw_780 : (Cond.superclass "java/lang/ArithmeticException" "java/lang/RuntimeException") ∈ zz_BW := zz_tw 780 (by decide +kernel) (by decide +kernel)
theorem zw_782 : (Cond.selects "java/lang/ArithmeticException" ({ cls := "java/lang/Throwable", name := "fillInStackTrace", desc := "(I)Ljava/lang/Throwable;" } : MethodName) ({ cls := "java/lang/Throwable", name := "fillInStackTrace", desc := "(I)Ljava/lang/Throwable;" } : MethodName)) ∈ zz_BW := zz_tw 782 (by decide +kernel) (by decide +kernel)
theorem zw_783 : (Cond.methodLink "OpenFloorsLaw" (77 : Nat) ({ cls := "OpenFloors", name := "meanStanding", desc := "()D" } : MethodName)) ∈ zz_BW := zz_tw 783 (by decide +kernel) (by decide +kernel)
theorem zw_784 : (Cond.instanceMethod ({ cls := "OpenFloors", name := "meanStanding", desc := "()D" } : MethodName)) ∈ zz_BW := zz_tw 784 (by decide +kernel) (by decide +kernel)
theorem zw_785 : (Cond.selects "OpenFloors" ({ cls := "OpenFloors", name := "meanStanding", desc := "()D" } : MethodName) ({ cls := "OpenFloors", name := "meanStanding", desc := "()D" } : MethodName)) ∈ zz_BW := zz_tw 785 (by decide +kernel) (by decide +kernel)
theorem zw_786 : (Cond.code ({ cls := "OpenFloors", name := "meanStanding", desc := "()D" } : MethodName) prog_1_method_29_code (3 : Nat) (Option.some FieldType.double)) ∈ zz_BW := zz_tw 786 (by decide +kernel) (by decide +kernel)
theorem zw_787 : (Cond.methodLink "OpenFloors" (213 : Nat) ({ cls := "java/util/ArrayList", name := "isEmpty", desc := "()Z" } : MethodName)) ∈ zz_BW := zz_tw 787 (by decide +kernel) (by decide +kernel)
theorem zw_788 : (Cond.instanceMethod ({ cls := "java/util/ArrayList", name := "isEmpty", desc := "()Z" } : MethodName)) ∈ zz_BW := zz_tw 788 (by decide +kernel) (by decide +kernel)
theorem zw_789 : (Cond.selects "java/util/ArrayList" ({ cls := "java/util/ArrayList", name := "isEmpty", desc := "()Z" } : MethodName) ({ cls := "java/util/ArrayList", name := "isEmpty", desc := "()Z" } : MethodName)) ∈ zz_BW := zz_tw 789 (by decide +kernel) (by decide +kernel)
theorem zw_790 : (Cond.code ({ cls := "java/util/ArrayList", name := "isEmpty", desc := "()Z" } : MethodName) prog_23_method_9_code (1 : Nat) (Option.some FieldType.boolean)) ∈ zz_BW := zz_tw 790 (by decide +kernel) (by decide +kernel)
theorem zw_791 : (Cond.classLink "OpenFloors" (217 : Nat) "java/lang/ArithmeticException") ∈ zz_BW := zz_tw 791 (by decide +kernel) (by decide +kernel)
theorem zw_793 : (Cond.methodLink "OpenFloors" (221 : Nat) ({ cls := "java/lang/ArithmeticException", name := "<init>", desc := "(Ljava/lang/String;)V" } : MethodName)) ∈ zz_BW := zz_tw 793 (by decide +kernel) (by decide +kernel)
theorem zw_794 : (Cond.methodLink "OpenFloorsLaw" (194 : Nat) ({ cls := "OpenFloorsLaw", name := "givenShare", desc := "(LOpenFloors;[D)I" } : MethodName)) ∈ zz_BW := zz_tw 794 (by decide +kernel) (by decide +kernel)
theorem zw_795 : (Cond.static ({ cls := "OpenFloorsLaw", name := "givenShare", desc := "(LOpenFloors;[D)I" } : MethodName)) ∈ zz_BW := zz_tw 795 (by decide +kernel) (by decide +kernel)
theorem zw_796 : (Cond.codeWith ({ cls := "OpenFloorsLaw", name := "givenShare", desc := "(LOpenFloors;[D)I" } : MethodName) method_22_code (3 : Nat) (Option.some FieldType.int) [((0 : Nat), (8 : Nat), (11 : Nat), (81 : Nat))]) ∈ zz_BW := zz_tw 796 (by decide +kernel) (by decide +kernel)
theorem zw_797 : (Cond.methodLink "OpenFloorsLaw" (83 : Nat) ({ cls := "OpenFloors", name := "givenShare", desc := "()F" } : MethodName)) ∈ zz_BW := zz_tw 797 (by decide +kernel) (by decide +kernel)
theorem zw_798 : (Cond.instanceMethod ({ cls := "OpenFloors", name := "givenShare", desc := "()F" } : MethodName)) ∈ zz_BW := zz_tw 798 (by decide +kernel) (by decide +kernel)
theorem zw_799 : (Cond.selects "OpenFloors" ({ cls := "OpenFloors", name := "givenShare", desc := "()F" } : MethodName) ({ cls := "OpenFloors", name := "givenShare", desc := "()F" } : MethodName)) ∈ zz_BW := zz_tw 799 (by decide +kernel) (by decide +kernel)
theorem zw_800 : (Cond.code ({ cls := "OpenFloors", name := "givenShare", desc := "()F" } : MethodName) prog_1_method_30_code (5 : Nat) (Option.some FieldType.float)) ∈ zz_BW := zz_tw 800 (by decide +kernel) (by decide +kernel)
theorem zw_802 : (Cond.classLink "OpenFloorsLaw" (88 : Nat) "OpenFloorsModel") ∈ zz_BW := zz_tw 802 (by decide +kernel) (by decide +kernel)
theorem zw_803 : (Cond.instantiable "OpenFloorsModel" (22 : Nat)) ∈ zz_BW := zz_tw 803 (by decide +kernel) (by decide +kernel)
theorem zw_804 : (Cond.methodLink "OpenFloorsLaw" (90 : Nat) ({ cls := "OpenFloorsModel", name := "<init>", desc := "()V" } : MethodName)) ∈ zz_BW := zz_tw 804 (by decide +kernel) (by decide +kernel)
theorem zw_805 : (Cond.instanceMethod ({ cls := "OpenFloorsModel", name := "<init>", desc := "()V" } : MethodName)) ∈ zz_BW := zz_tw 805 (by decide +kernel) (by decide +kernel)
theorem zw_806 : (Cond.code ({ cls := "OpenFloorsModel", name := "<init>", desc := "()V" } : MethodName) prog_5_method_1_code (1 : Nat) (Option.none : Option Jvm.ClassFile.FieldType)) ∈ zz_BW := zz_tw 806 (by decide +kernel) (by decide +kernel)
theorem zw_807 : (Cond.methodLink "OpenFloorsModel" (1 : Nat) ({ cls := "java/lang/Object", name := "<init>", desc := "()V" } : MethodName)) ∈ zz_BW := zz_tw 807 (by decide +kernel) (by decide +kernel)
theorem zw_808 : (Cond.fieldLink "OpenFloorsModel" (50 : Nat) "OpenFloorsModel" "thrown" "I") ∈ zz_BW := zz_tw 808 (by decide +kernel) (by decide +kernel)
theorem zw_809 : (Cond.fieldLink "OpenFloorsModel" (54 : Nat) "OpenFloorsModel" "floors" "I") ∈ zz_BW := zz_tw 809 (by decide +kernel) (by decide +kernel)
theorem zw_810 : (Cond.fieldLink "OpenFloorsModel" (61 : Nat) "OpenFloorsModel" "people" "I") ∈ zz_BW := zz_tw 810 (by decide +kernel) (by decide +kernel)
theorem zw_811 : (Cond.fieldLink "OpenFloorsModel" (78 : Nat) "OpenFloorsModel" "bookings" "I") ∈ zz_BW := zz_tw 811 (by decide +kernel) (by decide +kernel)
theorem zw_812 : (Cond.fieldLink "OpenFloorsModel" (115 : Nat) "OpenFloorsModel" "day" "I") ∈ zz_BW := zz_tw 812 (by decide +kernel) (by decide +kernel)
theorem zw_813 : (Cond.fieldLink "OpenFloorsModel" (121 : Nat) "OpenFloorsModel" "noShows" "I") ∈ zz_BW := zz_tw 813 (by decide +kernel) (by decide +kernel)
theorem zw_814 : (Cond.fieldLink "OpenFloorsModel" (7 : Nat) "OpenFloorsModel" "seats" "[I") ∈ zz_BW := zz_tw 814 (by decide +kernel) (by decide +kernel)
theorem zw_815 : (Cond.fieldLink "OpenFloorsModel" (13 : Nat) "OpenFloorsModel" "cost" "[I") ∈ zz_BW := zz_tw 815 (by decide +kernel) (by decide +kernel)
theorem zw_816 : (Cond.fieldLink "OpenFloorsModel" (16 : Nat) "OpenFloorsModel" "warmth" "[I") ∈ zz_BW := zz_tw 816 (by decide +kernel) (by decide +kernel)
theorem zw_817 : (Cond.fieldLink "OpenFloorsModel" (19 : Nat) "OpenFloorsModel" "air" "[I") ∈ zz_BW := zz_tw 817 (by decide +kernel) (by decide +kernel)
theorem zw_818 : (Cond.fieldLink "OpenFloorsModel" (22 : Nat) "OpenFloorsModel" "isOpen" "[Z") ∈ zz_BW := zz_tw 818 (by decide +kernel) (by decide +kernel)
theorem zw_819 : (Cond.fieldLink "OpenFloorsModel" (26 : Nat) "OpenFloorsModel" "team" "[I") ∈ zz_BW := zz_tw 819 (by decide +kernel) (by decide +kernel)
theorem zw_820 : (Cond.fieldLink "OpenFloorsModel" (29 : Nat) "OpenFloorsModel" "standing" "[I") ∈ zz_BW := zz_tw 820 (by decide +kernel) (by decide +kernel)
theorem zw_821 : (Cond.fieldLink "OpenFloorsModel" (32 : Nat) "OpenFloorsModel" "seat" "[I") ∈ zz_BW := zz_tw 821 (by decide +kernel) (by decide +kernel)
theorem zw_822 : (Cond.fieldLink "OpenFloorsModel" (35 : Nat) "OpenFloorsModel" "isIn" "[Z") ∈ zz_BW := zz_tw 822 (by decide +kernel) (by decide +kernel)
theorem zw_823 : (Cond.fieldLink "OpenFloorsModel" (38 : Nat) "OpenFloorsModel" "hasCome" "[Z") ∈ zz_BW := zz_tw 823 (by decide +kernel) (by decide +kernel)
theorem zw_824 : (Cond.fieldLink "OpenFloorsModel" (41 : Nat) "OpenFloorsModel" "isServed" "[Z") ∈ zz_BW := zz_tw 824 (by decide +kernel) (by decide +kernel)
theorem zw_825 : (Cond.fieldLink "OpenFloorsModel" (44 : Nat) "OpenFloorsModel" "booker" "[I") ∈ zz_BW := zz_tw 825 (by decide +kernel) (by decide +kernel)
theorem zw_826 : (Cond.fieldLink "OpenFloorsModel" (47 : Nat) "OpenFloorsModel" "wanted" "[I") ∈ zz_BW := zz_tw 826 (by decide +kernel) (by decide +kernel)
theorem zw_827 : (Cond.fieldLink "OpenFloorsModel" (144 : Nat) "OpenFloorsModel" "energy" "J") ∈ zz_BW := zz_tw 827 (by decide +kernel) (by decide +kernel)
theorem zw_828 : (Cond.fieldLink "OpenFloorsModel" (138 : Nat) "OpenFloorsModel" "discomfort" "J") ∈ zz_BW := zz_tw 828 (by decide +kernel) (by decide +kernel)
theorem zw_829 : (Cond.fieldLink "OpenFloorsModel" (101 : Nat) "OpenFloorsModel" "cleaning" "J") ∈ zz_BW := zz_tw 829 (by decide +kernel) (by decide +kernel)
theorem zw_830 : (Cond.lays "OpenFloorsModel" "OpenFloorsModel" "thrown" "I") ∈ zz_BW := zz_tw 830 (by decide +kernel) (by decide +kernel)
theorem zw_831 : (Cond.soleField "OpenFloorsModel" "thrown") ∈ zz_BW := zz_tw 831 (by decide +kernel) (by decide +kernel)
theorem zw_832 : (Cond.lays "OpenFloorsModel" "OpenFloorsModel" "floors" "I") ∈ zz_BW := zz_tw 832 (by decide +kernel) (by decide +kernel)
theorem zw_833 : (Cond.soleField "OpenFloorsModel" "floors") ∈ zz_BW := zz_tw 833 (by decide +kernel) (by decide +kernel)
theorem zw_834 : (Cond.lays "OpenFloorsModel" "OpenFloorsModel" "people" "I") ∈ zz_BW := zz_tw 834 (by decide +kernel) (by decide +kernel)
theorem zw_835 : (Cond.soleField "OpenFloorsModel" "people") ∈ zz_BW := zz_tw 835 (by decide +kernel) (by decide +kernel)
theorem zw_836 : (Cond.lays "OpenFloorsModel" "OpenFloorsModel" "bookings" "I") ∈ zz_BW := zz_tw 836 (by decide +kernel) (by decide +kernel)
theorem zw_837 : (Cond.soleField "OpenFloorsModel" "bookings") ∈ zz_BW := zz_tw 837 (by decide +kernel) (by decide +kernel)
theorem zw_838 : (Cond.lays "OpenFloorsModel" "OpenFloorsModel" "day" "I") ∈ zz_BW := zz_tw 838 (by decide +kernel) (by decide +kernel)
theorem zw_839 : (Cond.soleField "OpenFloorsModel" "day") ∈ zz_BW := zz_tw 839 (by decide +kernel) (by decide +kernel)
theorem zw_840 : (Cond.lays "OpenFloorsModel" "OpenFloorsModel" "noShows" "I") ∈ zz_BW := zz_tw 840 (by decide +kernel) (by decide +kernel)
theorem zw_841 : (Cond.soleField "OpenFloorsModel" "noShows") ∈ zz_BW := zz_tw 841 (by decide +kernel) (by decide +kernel)
theorem zw_842 : (Cond.laysFinal "OpenFloorsModel" "OpenFloorsModel" "seats" "[I") ∈ zz_BW := zz_tw 842 (by decide +kernel) (by decide +kernel)
theorem zw_843 : (Cond.soleField "OpenFloorsModel" "seats") ∈ zz_BW := zz_tw 843 (by decide +kernel) (by decide +kernel)
theorem zw_844 : (Cond.laysFinal "OpenFloorsModel" "OpenFloorsModel" "cost" "[I") ∈ zz_BW := zz_tw 844 (by decide +kernel) (by decide +kernel)
theorem zw_845 : (Cond.soleField "OpenFloorsModel" "cost") ∈ zz_BW := zz_tw 845 (by decide +kernel) (by decide +kernel)
theorem zw_846 : (Cond.laysFinal "OpenFloorsModel" "OpenFloorsModel" "warmth" "[I") ∈ zz_BW := zz_tw 846 (by decide +kernel) (by decide +kernel)
theorem zw_847 : (Cond.soleField "OpenFloorsModel" "warmth") ∈ zz_BW := zz_tw 847 (by decide +kernel) (by decide +kernel)
theorem zw_848 : (Cond.laysFinal "OpenFloorsModel" "OpenFloorsModel" "air" "[I") ∈ zz_BW := zz_tw 848 (by decide +kernel) (by decide +kernel)
theorem zw_849 : (Cond.soleField "OpenFloorsModel" "air") ∈ zz_BW := zz_tw 849 (by decide +kernel) (by decide +kernel)
theorem zw_850 : (Cond.laysFinal "OpenFloorsModel" "OpenFloorsModel" "isOpen" "[Z") ∈ zz_BW := zz_tw 850 (by decide +kernel) (by decide +kernel)
theorem zw_851 : (Cond.soleField "OpenFloorsModel" "isOpen") ∈ zz_BW := zz_tw 851 (by decide +kernel) (by decide +kernel)
theorem zw_852 : (Cond.laysFinal "OpenFloorsModel" "OpenFloorsModel" "team" "[I") ∈ zz_BW := zz_tw 852 (by decide +kernel) (by decide +kernel)
theorem zw_853 : (Cond.soleField "OpenFloorsModel" "team") ∈ zz_BW := zz_tw 853 (by decide +kernel) (by decide +kernel)
theorem zw_854 : (Cond.laysFinal "OpenFloorsModel" "OpenFloorsModel" "standing" "[I") ∈ zz_BW := zz_tw 854 (by decide +kernel) (by decide +kernel)
theorem zw_855 : (Cond.soleField "OpenFloorsModel" "standing") ∈ zz_BW := zz_tw 855 (by decide +kernel) (by decide +kernel)
theorem zw_856 : (Cond.laysFinal "OpenFloorsModel" "OpenFloorsModel" "seat" "[I") ∈ zz_BW := zz_tw 856 (by decide +kernel) (by decide +kernel)
theorem zw_857 : (Cond.soleField "OpenFloorsModel" "seat") ∈ zz_BW := zz_tw 857 (by decide +kernel) (by decide +kernel)
theorem zw_858 : (Cond.laysFinal "OpenFloorsModel" "OpenFloorsModel" "isIn" "[Z") ∈ zz_BW := zz_tw 858 (by decide +kernel) (by decide +kernel)
theorem zw_859 : (Cond.soleField "OpenFloorsModel" "isIn") ∈ zz_BW := zz_tw 859 (by decide +kernel) (by decide +kernel)
theorem zw_860 : (Cond.laysFinal "OpenFloorsModel" "OpenFloorsModel" "hasCome" "[Z") ∈ zz_BW := zz_tw 860 (by decide +kernel) (by decide +kernel)
theorem zw_861 : (Cond.soleField "OpenFloorsModel" "hasCome") ∈ zz_BW := zz_tw 861 (by decide +kernel) (by decide +kernel)
theorem zw_862 : (Cond.laysFinal "OpenFloorsModel" "OpenFloorsModel" "isServed" "[Z") ∈ zz_BW := zz_tw 862 (by decide +kernel) (by decide +kernel)
theorem zw_863 : (Cond.soleField "OpenFloorsModel" "isServed") ∈ zz_BW := zz_tw 863 (by decide +kernel) (by decide +kernel)
theorem zw_864 : (Cond.laysFinal "OpenFloorsModel" "OpenFloorsModel" "booker" "[I") ∈ zz_BW := zz_tw 864 (by decide +kernel) (by decide +kernel)
theorem zw_865 : (Cond.soleField "OpenFloorsModel" "booker") ∈ zz_BW := zz_tw 865 (by decide +kernel) (by decide +kernel)
theorem zw_866 : (Cond.laysFinal "OpenFloorsModel" "OpenFloorsModel" "wanted" "[I") ∈ zz_BW := zz_tw 866 (by decide +kernel) (by decide +kernel)
theorem zw_867 : (Cond.soleField "OpenFloorsModel" "wanted") ∈ zz_BW := zz_tw 867 (by decide +kernel) (by decide +kernel)
theorem zw_868 : (Cond.lays "OpenFloorsModel" "OpenFloorsModel" "energy" "J") ∈ zz_BW := zz_tw 868 (by decide +kernel) (by decide +kernel)
theorem zw_869 : (Cond.soleField "OpenFloorsModel" "energy") ∈ zz_BW := zz_tw 869 (by decide +kernel) (by decide +kernel)
theorem zw_870 : (Cond.lays "OpenFloorsModel" "OpenFloorsModel" "discomfort" "J") ∈ zz_BW := zz_tw 870 (by decide +kernel) (by decide +kernel)
theorem zw_871 : (Cond.soleField "OpenFloorsModel" "discomfort") ∈ zz_BW := zz_tw 871 (by decide +kernel) (by decide +kernel)
theorem zw_872 : (Cond.lays "OpenFloorsModel" "OpenFloorsModel" "cleaning" "J") ∈ zz_BW := zz_tw 872 (by decide +kernel) (by decide +kernel)
theorem zw_873 : (Cond.soleField "OpenFloorsModel" "cleaning") ∈ zz_BW := zz_tw 873 (by decide +kernel) (by decide +kernel)
theorem zw_874 : (Cond.superclass "OpenFloorsModel" "java/lang/Object") ∈ zz_BW := zz_tw 874 (by decide +kernel) (by decide +kernel)
theorem zw_875 : (Cond.arrayClass FieldType.boolean) ∈ zz_BW := zz_tw 875 (by decide +kernel) (by decide +kernel)
theorem zw_876 : (Cond.methodLink "OpenFloorsLaw" (97 : Nat) ({ cls := "OpenFloorsModel", name := "thrown", desc := "()I" } : MethodName)) ∈ zz_BW := zz_tw 876 (by decide +kernel) (by decide +kernel)
theorem zw_877 : (Cond.instanceMethod ({ cls := "OpenFloorsModel", name := "thrown", desc := "()I" } : MethodName)) ∈ zz_BW := zz_tw 877 (by decide +kernel) (by decide +kernel)
theorem zw_878 : (Cond.selects "OpenFloorsModel" ({ cls := "OpenFloorsModel", name := "thrown", desc := "()I" } : MethodName) ({ cls := "OpenFloorsModel", name := "thrown", desc := "()I" } : MethodName)) ∈ zz_BW := zz_tw 878 (by decide +kernel) (by decide +kernel)
theorem zw_879 : (Cond.code ({ cls := "OpenFloorsModel", name := "thrown", desc := "()I" } : MethodName) prog_5_method_2_code (1 : Nat) (Option.some FieldType.int)) ∈ zz_BW := zz_tw 879 (by decide +kernel) (by decide +kernel)
theorem zw_880 : (Cond.methodLink "OpenFloorsLaw" (96 : Nat) ({ cls := "OpenFloorsModel", name := "addFloor", desc := "(II)I" } : MethodName)) ∈ zz_BW := zz_tw 880 (by decide +kernel) (by decide +kernel)
theorem zw_881 : (Cond.instanceMethod ({ cls := "OpenFloorsModel", name := "addFloor", desc := "(II)I" } : MethodName)) ∈ zz_BW := zz_tw 881 (by decide +kernel) (by decide +kernel)
theorem zw_882 : (Cond.selects "OpenFloorsModel" ({ cls := "OpenFloorsModel", name := "addFloor", desc := "(II)I" } : MethodName) ({ cls := "OpenFloorsModel", name := "addFloor", desc := "(II)I" } : MethodName)) ∈ zz_BW := zz_tw 882 (by decide +kernel) (by decide +kernel)
theorem zw_883 : (Cond.code ({ cls := "OpenFloorsModel", name := "addFloor", desc := "(II)I" } : MethodName) prog_5_method_9_code (3 : Nat) (Option.some FieldType.int)) ∈ zz_BW := zz_tw 883 (by decide +kernel) (by decide +kernel)
theorem zw_884 : (Cond.methodLink "OpenFloorsModel" (57 : Nat) ({ cls := "OpenFloorsModel", name := "in", desc := "(III)Z" } : MethodName)) ∈ zz_BW := zz_tw 884 (by decide +kernel) (by decide +kernel)
theorem zw_885 : (Cond.static ({ cls := "OpenFloorsModel", name := "in", desc := "(III)Z" } : MethodName)) ∈ zz_BW := zz_tw 885 (by decide +kernel) (by decide +kernel)
theorem zw_886 : (Cond.code ({ cls := "OpenFloorsModel", name := "in", desc := "(III)Z" } : MethodName) prog_5_method_3_code (3 : Nat) (Option.some FieldType.boolean)) ∈ zz_BW := zz_tw 886 (by decide +kernel) (by decide +kernel)
theorem zw_887 : (Cond.methodLink "OpenFloorsModel" (64 : Nat) ({ cls := "OpenFloorsModel", name := "fails", desc := "(I)I" } : MethodName)) ∈ zz_BW := zz_tw 887 (by decide +kernel) (by decide +kernel)
theorem zw_889 : (Cond.instanceMethod ({ cls := "OpenFloorsModel", name := "fails", desc := "(I)I" } : MethodName)) ∈ zz_BW := zz_tw 889 (by decide +kernel) (by decide +kernel)
theorem zw_890 : (Cond.code ({ cls := "OpenFloorsModel", name := "fails", desc := "(I)I" } : MethodName) prog_5_method_4_code (2 : Nat) (Option.some FieldType.int)) ∈ zz_BW := zz_tw 890 (by decide +kernel) (by decide +kernel)
theorem zw_891 : (Cond.methodLink "OpenFloorsModel" (68 : Nat) ({ cls := "OpenFloorsModel", name := "tells", desc := "(I)I" } : MethodName)) ∈ zz_BW := zz_tw 891 (by decide +kernel) (by decide +kernel)
theorem zw_893 : (Cond.instanceMethod ({ cls := "OpenFloorsModel", name := "tells", desc := "(I)I" } : MethodName)) ∈ zz_BW := zz_tw 893 (by decide +kernel) (by decide +kernel)
theorem zw_894 : (Cond.code ({ cls := "OpenFloorsModel", name := "tells", desc := "(I)I" } : MethodName) prog_5_method_5_code (2 : Nat) (Option.some FieldType.int)) ∈ zz_BW := zz_tw 894 (by decide +kernel) (by decide +kernel)
theorem zw_895 : (Cond.methodLink "OpenFloorsLaw" (102 : Nat) ({ cls := "OpenFloorsModel", name := "setCost", desc := "(II)I" } : MethodName)) ∈ zz_BW := zz_tw 895 (by decide +kernel) (by decide +kernel)
theorem zw_896 : (Cond.instanceMethod ({ cls := "OpenFloorsModel", name := "setCost", desc := "(II)I" } : MethodName)) ∈ zz_BW := zz_tw 896 (by decide +kernel) (by decide +kernel)
theorem zw_897 : (Cond.selects "OpenFloorsModel" ({ cls := "OpenFloorsModel", name := "setCost", desc := "(II)I" } : MethodName) ({ cls := "OpenFloorsModel", name := "setCost", desc := "(II)I" } : MethodName)) ∈ zz_BW := zz_tw 897 (by decide +kernel) (by decide +kernel)
theorem zw_898 : (Cond.code ({ cls := "OpenFloorsModel", name := "setCost", desc := "(II)I" } : MethodName) prog_5_method_10_code (4 : Nat) (Option.some FieldType.int)) ∈ zz_BW := zz_tw 898 (by decide +kernel) (by decide +kernel)
theorem zw_899 : (Cond.methodLink "OpenFloorsModel" (71 : Nat) ({ cls := "OpenFloorsModel", name := "isFloor", desc := "(I)Z" } : MethodName)) ∈ zz_BW := zz_tw 899 (by decide +kernel) (by decide +kernel)
theorem zw_901 : (Cond.instanceMethod ({ cls := "OpenFloorsModel", name := "isFloor", desc := "(I)Z" } : MethodName)) ∈ zz_BW := zz_tw 901 (by decide +kernel) (by decide +kernel)
theorem zw_902 : (Cond.code ({ cls := "OpenFloorsModel", name := "isFloor", desc := "(I)Z" } : MethodName) prog_5_method_7_code (2 : Nat) (Option.some FieldType.boolean)) ∈ zz_BW := zz_tw 902 (by decide +kernel) (by decide +kernel)
theorem zw_903 : (Cond.methodLink "OpenFloorsLaw" (106 : Nat) ({ cls := "OpenFloorsModel", name := "addPerson", desc := "(I)I" } : MethodName)) ∈ zz_BW := zz_tw 903 (by decide +kernel) (by decide +kernel)
theorem zw_904 : (Cond.instanceMethod ({ cls := "OpenFloorsModel", name := "addPerson", desc := "(I)I" } : MethodName)) ∈ zz_BW := zz_tw 904 (by decide +kernel) (by decide +kernel)
theorem zw_905 : (Cond.selects "OpenFloorsModel" ({ cls := "OpenFloorsModel", name := "addPerson", desc := "(I)I" } : MethodName) ({ cls := "OpenFloorsModel", name := "addPerson", desc := "(I)I" } : MethodName)) ∈ zz_BW := zz_tw 905 (by decide +kernel) (by decide +kernel)
theorem zw_906 : (Cond.code ({ cls := "OpenFloorsModel", name := "addPerson", desc := "(I)I" } : MethodName) prog_5_method_11_code (2 : Nat) (Option.some FieldType.int)) ∈ zz_BW := zz_tw 906 (by decide +kernel) (by decide +kernel)
theorem zw_907 : (Cond.methodLink "OpenFloorsLaw" (109 : Nat) ({ cls := "OpenFloorsModel", name := "standing", desc := "(I)I" } : MethodName)) ∈ zz_BW := zz_tw 907 (by decide +kernel) (by decide +kernel)
theorem zw_908 : (Cond.instanceMethod ({ cls := "OpenFloorsModel", name := "standing", desc := "(I)I" } : MethodName)) ∈ zz_BW := zz_tw 908 (by decide +kernel) (by decide +kernel)
theorem zw_909 : (Cond.selects "OpenFloorsModel" ({ cls := "OpenFloorsModel", name := "standing", desc := "(I)I" } : MethodName) ({ cls := "OpenFloorsModel", name := "standing", desc := "(I)I" } : MethodName)) ∈ zz_BW := zz_tw 909 (by decide +kernel) (by decide +kernel)
theorem zw_910 : (Cond.code ({ cls := "OpenFloorsModel", name := "standing", desc := "(I)I" } : MethodName) prog_5_method_12_code (2 : Nat) (Option.some FieldType.int)) ∈ zz_BW := zz_tw 910 (by decide +kernel) (by decide +kernel)
theorem zw_911 : (Cond.methodLink "OpenFloorsModel" (75 : Nat) ({ cls := "OpenFloorsModel", name := "isPerson", desc := "(I)Z" } : MethodName)) ∈ zz_BW := zz_tw 911 (by decide +kernel) (by decide +kernel)
theorem zw_913 : (Cond.instanceMethod ({ cls := "OpenFloorsModel", name := "isPerson", desc := "(I)Z" } : MethodName)) ∈ zz_BW := zz_tw 913 (by decide +kernel) (by decide +kernel)
theorem zw_914 : (Cond.code ({ cls := "OpenFloorsModel", name := "isPerson", desc := "(I)Z" } : MethodName) prog_5_method_8_code (2 : Nat) (Option.some FieldType.boolean)) ∈ zz_BW := zz_tw 914 (by decide +kernel) (by decide +kernel)
theorem zw_915 : (Cond.methodLink "OpenFloorsLaw" (112 : Nat) ({ cls := "OpenFloorsModel", name := "book", desc := "(II)I" } : MethodName)) ∈ zz_BW := zz_tw 915 (by decide +kernel) (by decide +kernel)
theorem zw_916 : (Cond.instanceMethod ({ cls := "OpenFloorsModel", name := "book", desc := "(II)I" } : MethodName)) ∈ zz_BW := zz_tw 916 (by decide +kernel) (by decide +kernel)
theorem zw_917 : (Cond.selects "OpenFloorsModel" ({ cls := "OpenFloorsModel", name := "book", desc := "(II)I" } : MethodName) ({ cls := "OpenFloorsModel", name := "book", desc := "(II)I" } : MethodName)) ∈ zz_BW := zz_tw 917 (by decide +kernel) (by decide +kernel)
theorem zw_918 : (Cond.code ({ cls := "OpenFloorsModel", name := "book", desc := "(II)I" } : MethodName) prog_5_method_15_code (3 : Nat) (Option.some FieldType.int)) ∈ zz_BW := zz_tw 918 (by decide +kernel) (by decide +kernel)
theorem zw_919 : (Cond.methodLink "OpenFloorsModel" (81 : Nat) ({ cls := "OpenFloorsModel", name := "bookingOf", desc := "(I)I" } : MethodName)) ∈ zz_BW := zz_tw 919 (by decide +kernel) (by decide +kernel)
theorem zw_921 : (Cond.instanceMethod ({ cls := "OpenFloorsModel", name := "bookingOf", desc := "(I)I" } : MethodName)) ∈ zz_BW := zz_tw 921 (by decide +kernel) (by decide +kernel)
theorem zw_922 : (Cond.code ({ cls := "OpenFloorsModel", name := "bookingOf", desc := "(I)I" } : MethodName) prog_5_method_13_code (3 : Nat) (Option.some FieldType.int)) ∈ zz_BW := zz_tw 922 (by decide +kernel) (by decide +kernel)
theorem zw_923 : (Cond.methodLink "OpenFloorsModel" (84 : Nat) ({ cls := "OpenFloorsModel", name := "seatsIn", desc := "(I)I" } : MethodName)) ∈ zz_BW := zz_tw 923 (by decide +kernel) (by decide +kernel)
theorem zw_925 : (Cond.instanceMethod ({ cls := "OpenFloorsModel", name := "seatsIn", desc := "(I)I" } : MethodName)) ∈ zz_BW := zz_tw 925 (by decide +kernel) (by decide +kernel)
theorem zw_926 : (Cond.code ({ cls := "OpenFloorsModel", name := "seatsIn", desc := "(I)I" } : MethodName) prog_5_method_14_code (4 : Nat) (Option.some FieldType.int)) ∈ zz_BW := zz_tw 926 (by decide +kernel) (by decide +kernel)
theorem zw_927 : (Cond.methodLink "OpenFloorsLaw" (115 : Nat) ({ cls := "OpenFloorsModel", name := "cancel", desc := "(I)I" } : MethodName)) ∈ zz_BW := zz_tw 927 (by decide +kernel) (by decide +kernel)
theorem zw_928 : (Cond.instanceMethod ({ cls := "OpenFloorsModel", name := "cancel", desc := "(I)I" } : MethodName)) ∈ zz_BW := zz_tw 928 (by decide +kernel) (by decide +kernel)
theorem zw_929 : (Cond.selects "OpenFloorsModel" ({ cls := "OpenFloorsModel", name := "cancel", desc := "(I)I" } : MethodName) ({ cls := "OpenFloorsModel", name := "cancel", desc := "(I)I" } : MethodName)) ∈ zz_BW := zz_tw 929 (by decide +kernel) (by decide +kernel)
theorem zw_930 : (Cond.code ({ cls := "OpenFloorsModel", name := "cancel", desc := "(I)I" } : MethodName) prog_5_method_16_code (5 : Nat) (Option.some FieldType.int)) ∈ zz_BW := zz_tw 930 (by decide +kernel) (by decide +kernel)
theorem zw_931 : (Cond.methodLink "OpenFloorsLaw" (119 : Nat) ({ cls := "OpenFloorsModel", name := "bookings", desc := "()I" } : MethodName)) ∈ zz_BW := zz_tw 931 (by decide +kernel) (by decide +kernel)
theorem zw_932 : (Cond.instanceMethod ({ cls := "OpenFloorsModel", name := "bookings", desc := "()I" } : MethodName)) ∈ zz_BW := zz_tw 932 (by decide +kernel) (by decide +kernel)
theorem zw_933 : (Cond.selects "OpenFloorsModel" ({ cls := "OpenFloorsModel", name := "bookings", desc := "()I" } : MethodName) ({ cls := "OpenFloorsModel", name := "bookings", desc := "()I" } : MethodName)) ∈ zz_BW := zz_tw 933 (by decide +kernel) (by decide +kernel)
theorem zw_934 : (Cond.code ({ cls := "OpenFloorsModel", name := "bookings", desc := "()I" } : MethodName) prog_5_method_17_code (1 : Nat) (Option.some FieldType.int)) ∈ zz_BW := zz_tw 934 (by decide +kernel) (by decide +kernel)
theorem zw_935 : (Cond.methodLink "OpenFloorsLaw" (122 : Nat) ({ cls := "OpenFloorsModel", name := "bookingAt", desc := "(I)I" } : MethodName)) ∈ zz_BW := zz_tw 935 (by decide +kernel) (by decide +kernel)
theorem zw_936 : (Cond.instanceMethod ({ cls := "OpenFloorsModel", name := "bookingAt", desc := "(I)I" } : MethodName)) ∈ zz_BW := zz_tw 936 (by decide +kernel) (by decide +kernel)
theorem zw_937 : (Cond.selects "OpenFloorsModel" ({ cls := "OpenFloorsModel", name := "bookingAt", desc := "(I)I" } : MethodName) ({ cls := "OpenFloorsModel", name := "bookingAt", desc := "(I)I" } : MethodName)) ∈ zz_BW := zz_tw 937 (by decide +kernel) (by decide +kernel)
theorem zw_938 : (Cond.code ({ cls := "OpenFloorsModel", name := "bookingAt", desc := "(I)I" } : MethodName) prog_5_method_18_code (2 : Nat) (Option.some FieldType.int)) ∈ zz_BW := zz_tw 938 (by decide +kernel) (by decide +kernel)
theorem zw_939 : (Cond.methodLink "OpenFloorsLaw" (126 : Nat) ({ cls := "OpenFloorsModel", name := "plan", desc := "()I" } : MethodName)) ∈ zz_BW := zz_tw 939 (by decide +kernel) (by decide +kernel)
theorem zw_940 : (Cond.instanceMethod ({ cls := "OpenFloorsModel", name := "plan", desc := "()I" } : MethodName)) ∈ zz_BW := zz_tw 940 (by decide +kernel) (by decide +kernel)
theorem zw_941 : (Cond.selects "OpenFloorsModel" ({ cls := "OpenFloorsModel", name := "plan", desc := "()I" } : MethodName) ({ cls := "OpenFloorsModel", name := "plan", desc := "()I" } : MethodName)) ∈ zz_BW := zz_tw 941 (by decide +kernel) (by decide +kernel)
theorem zw_942 : (Cond.code ({ cls := "OpenFloorsModel", name := "plan", desc := "()I" } : MethodName) prog_5_method_23_code (1 : Nat) (Option.some FieldType.int)) ∈ zz_BW := zz_tw 942 (by decide +kernel) (by decide +kernel)
theorem zw_943 : (Cond.methodLink "OpenFloorsModel" (97 : Nat) ({ cls := "OpenFloorsModel", name := "best", desc := "()I" } : MethodName)) ∈ zz_BW := zz_tw 943 (by decide +kernel) (by decide +kernel)
theorem zw_945 : (Cond.instanceMethod ({ cls := "OpenFloorsModel", name := "best", desc := "()I" } : MethodName)) ∈ zz_BW := zz_tw 945 (by decide +kernel) (by decide +kernel)
theorem zw_946 : (Cond.code ({ cls := "OpenFloorsModel", name := "best", desc := "()I" } : MethodName) prog_5_method_22_code (3 : Nat) (Option.some FieldType.int)) ∈ zz_BW := zz_tw 946 (by decide +kernel) (by decide +kernel)
theorem zw_947 : (Cond.methodLink "OpenFloorsModel" (91 : Nat) ({ cls := "OpenFloorsModel", name := "fits", desc := "(I)Z" } : MethodName)) ∈ zz_BW := zz_tw 947 (by decide +kernel) (by decide +kernel)
theorem zw_949 : (Cond.instanceMethod ({ cls := "OpenFloorsModel", name := "fits", desc := "(I)Z" } : MethodName)) ∈ zz_BW := zz_tw 949 (by decide +kernel) (by decide +kernel)
theorem zw_950 : (Cond.code ({ cls := "OpenFloorsModel", name := "fits", desc := "(I)Z" } : MethodName) prog_5_method_20_code (2 : Nat) (Option.some FieldType.boolean)) ∈ zz_BW := zz_tw 950 (by decide +kernel) (by decide +kernel)
theorem zw_951 : (Cond.methodLink "OpenFloorsModel" (94 : Nat) ({ cls := "OpenFloorsModel", name := "loss", desc := "(I)I" } : MethodName)) ∈ zz_BW := zz_tw 951 (by decide +kernel) (by decide +kernel)
theorem zw_953 : (Cond.instanceMethod ({ cls := "OpenFloorsModel", name := "loss", desc := "(I)I" } : MethodName)) ∈ zz_BW := zz_tw 953 (by decide +kernel) (by decide +kernel)
theorem zw_954 : (Cond.code ({ cls := "OpenFloorsModel", name := "loss", desc := "(I)I" } : MethodName) prog_5_method_21_code (6 : Nat) (Option.some FieldType.int)) ∈ zz_BW := zz_tw 954 (by decide +kernel) (by decide +kernel)
theorem zw_955 : (Cond.methodLink "OpenFloorsModel" (87 : Nat) ({ cls := "OpenFloorsModel", name := "apart", desc := "(II)I" } : MethodName)) ∈ zz_BW := zz_tw 955 (by decide +kernel) (by decide +kernel)
theorem zw_956 : (Cond.static ({ cls := "OpenFloorsModel", name := "apart", desc := "(II)I" } : MethodName)) ∈ zz_BW := zz_tw 956 (by decide +kernel) (by decide +kernel)
theorem zw_957 : (Cond.code ({ cls := "OpenFloorsModel", name := "apart", desc := "(II)I" } : MethodName) prog_5_method_19_code (2 : Nat) (Option.some FieldType.int)) ∈ zz_BW := zz_tw 957 (by decide +kernel) (by decide +kernel)
theorem zw_958 : (Cond.methodLink "OpenFloorsLaw" (130 : Nat) ({ cls := "OpenFloorsModel", name := "planByTrying", desc := "()I" } : MethodName)) ∈ zz_BW := zz_tw 958 (by decide +kernel) (by decide +kernel)
theorem zw_959 : (Cond.instanceMethod ({ cls := "OpenFloorsModel", name := "planByTrying", desc := "()I" } : MethodName)) ∈ zz_BW := zz_tw 959 (by decide +kernel) (by decide +kernel)
theorem zw_960 : (Cond.selects "OpenFloorsModel" ({ cls := "OpenFloorsModel", name := "planByTrying", desc := "()I" } : MethodName) ({ cls := "OpenFloorsModel", name := "planByTrying", desc := "()I" } : MethodName)) ∈ zz_BW := zz_tw 960 (by decide +kernel) (by decide +kernel)
theorem zw_961 : (Cond.code ({ cls := "OpenFloorsModel", name := "planByTrying", desc := "()I" } : MethodName) prog_5_method_24_code (1 : Nat) (Option.some FieldType.int)) ∈ zz_BW := zz_tw 961 (by decide +kernel) (by decide +kernel)
theorem zw_962 : (Cond.methodLink "OpenFloorsLaw" (134 : Nat) ({ cls := "OpenFloorsModel", name := "planLoss", desc := "()I" } : MethodName)) ∈ zz_BW := zz_tw 962 (by decide +kernel) (by decide +kernel)
theorem zw_963 : (Cond.instanceMethod ({ cls := "OpenFloorsModel", name := "planLoss", desc := "()I" } : MethodName)) ∈ zz_BW := zz_tw 963 (by decide +kernel) (by decide +kernel)
theorem zw_964 : (Cond.selects "OpenFloorsModel" ({ cls := "OpenFloorsModel", name := "planLoss", desc := "()I" } : MethodName) ({ cls := "OpenFloorsModel", name := "planLoss", desc := "()I" } : MethodName)) ∈ zz_BW := zz_tw 964 (by decide +kernel) (by decide +kernel)
theorem zw_965 : (Cond.code ({ cls := "OpenFloorsModel", name := "planLoss", desc := "()I" } : MethodName) prog_5_method_25_code (1 : Nat) (Option.some FieldType.int)) ∈ zz_BW := zz_tw 965 (by decide +kernel) (by decide +kernel)
theorem zw_966 : (Cond.methodLink "OpenFloorsLaw" (137 : Nat) ({ cls := "OpenFloorsModel", name := "lossOf", desc := "(I)I" } : MethodName)) ∈ zz_BW := zz_tw 966 (by decide +kernel) (by decide +kernel)
theorem zw_967 : (Cond.instanceMethod ({ cls := "OpenFloorsModel", name := "lossOf", desc := "(I)I" } : MethodName)) ∈ zz_BW := zz_tw 967 (by decide +kernel) (by decide +kernel)
theorem zw_968 : (Cond.selects "OpenFloorsModel" ({ cls := "OpenFloorsModel", name := "lossOf", desc := "(I)I" } : MethodName) ({ cls := "OpenFloorsModel", name := "lossOf", desc := "(I)I" } : MethodName)) ∈ zz_BW := zz_tw 968 (by decide +kernel) (by decide +kernel)
theorem zw_969 : (Cond.code ({ cls := "OpenFloorsModel", name := "lossOf", desc := "(I)I" } : MethodName) prog_5_method_26_code (2 : Nat) (Option.some FieldType.int)) ∈ zz_BW := zz_tw 969 (by decide +kernel) (by decide +kernel)
theorem zw_970 : (Cond.methodLink "OpenFloorsLaw" (141 : Nat) ({ cls := "OpenFloorsModel", name := "nextDay", desc := "()I" } : MethodName)) ∈ zz_BW := zz_tw 970 (by decide +kernel) (by decide +kernel)
theorem zw_971 : (Cond.instanceMethod ({ cls := "OpenFloorsModel", name := "nextDay", desc := "()I" } : MethodName)) ∈ zz_BW := zz_tw 971 (by decide +kernel) (by decide +kernel)
theorem zw_972 : (Cond.selects "OpenFloorsModel" ({ cls := "OpenFloorsModel", name := "nextDay", desc := "()I" } : MethodName) ({ cls := "OpenFloorsModel", name := "nextDay", desc := "()I" } : MethodName)) ∈ zz_BW := zz_tw 972 (by decide +kernel) (by decide +kernel)
theorem zw_973 : (Cond.code ({ cls := "OpenFloorsModel", name := "nextDay", desc := "()I" } : MethodName) prog_5_method_32_code (5 : Nat) (Option.some FieldType.int)) ∈ zz_BW := zz_tw 973 (by decide +kernel) (by decide +kernel)
theorem zw_974 : (Cond.methodLink "OpenFloorsModel" (118 : Nat) ({ cls := "OpenFloorsModel", name := "judges", desc := "()I" } : MethodName)) ∈ zz_BW := zz_tw 974 (by decide +kernel) (by decide +kernel)
theorem zw_976 : (Cond.instanceMethod ({ cls := "OpenFloorsModel", name := "judges", desc := "()I" } : MethodName)) ∈ zz_BW := zz_tw 976 (by decide +kernel) (by decide +kernel)
theorem zw_977 : (Cond.code ({ cls := "OpenFloorsModel", name := "judges", desc := "()I" } : MethodName) prog_5_method_28_code (3 : Nat) (Option.some FieldType.int)) ∈ zz_BW := zz_tw 977 (by decide +kernel) (by decide +kernel)
theorem zw_978 : (Cond.methodLink "OpenFloorsModel" (124 : Nat) ({ cls := "OpenFloorsModel", name := "cleans", desc := "()V" } : MethodName)) ∈ zz_BW := zz_tw 978 (by decide +kernel) (by decide +kernel)
theorem zw_980 : (Cond.instanceMethod ({ cls := "OpenFloorsModel", name := "cleans", desc := "()V" } : MethodName)) ∈ zz_BW := zz_tw 980 (by decide +kernel) (by decide +kernel)
theorem zw_981 : (Cond.code ({ cls := "OpenFloorsModel", name := "cleans", desc := "()V" } : MethodName) prog_5_method_29_code (3 : Nat) (Option.none : Option Jvm.ClassFile.FieldType)) ∈ zz_BW := zz_tw 981 (by decide +kernel) (by decide +kernel)
theorem zw_982 : (Cond.constantLong "OpenFloorsModel" (105 : Nat) (10 : Int64)) ∈ zz_BW := zz_tw 982 (by decide +kernel) (by decide +kernel)
theorem zw_983 : (Cond.constantLong "OpenFloorsModel" (107 : Nat) (5 : Int64)) ∈ zz_BW := zz_tw 983 (by decide +kernel) (by decide +kernel)
theorem zw_984 : (Cond.methodLink "OpenFloorsModel" (127 : Nat) ({ cls := "OpenFloorsModel", name := "gives", desc := "(I)V" } : MethodName)) ∈ zz_BW := zz_tw 984 (by decide +kernel) (by decide +kernel)
theorem zw_986 : (Cond.instanceMethod ({ cls := "OpenFloorsModel", name := "gives", desc := "(I)V" } : MethodName)) ∈ zz_BW := zz_tw 986 (by decide +kernel) (by decide +kernel)
theorem zw_987 : (Cond.code ({ cls := "OpenFloorsModel", name := "gives", desc := "(I)V" } : MethodName) prog_5_method_31_code (4 : Nat) (Option.none : Option Jvm.ClassFile.FieldType)) ∈ zz_BW := zz_tw 987 (by decide +kernel) (by decide +kernel)
theorem zw_988 : (Cond.methodLink "OpenFloorsModel" (109 : Nat) ({ cls := "OpenFloorsModel", name := "sitting", desc := "(II)I" } : MethodName)) ∈ zz_BW := zz_tw 988 (by decide +kernel) (by decide +kernel)
theorem zw_990 : (Cond.instanceMethod ({ cls := "OpenFloorsModel", name := "sitting", desc := "(II)I" } : MethodName)) ∈ zz_BW := zz_tw 990 (by decide +kernel) (by decide +kernel)
theorem zw_991 : (Cond.code ({ cls := "OpenFloorsModel", name := "sitting", desc := "(II)I" } : MethodName) prog_5_method_27_code (5 : Nat) (Option.some FieldType.int)) ∈ zz_BW := zz_tw 991 (by decide +kernel) (by decide +kernel)
theorem zw_992 : (Cond.methodLink "OpenFloorsModel" (112 : Nat) ({ cls := "OpenFloorsModel", name := "isNearer", desc := "(III)Z" } : MethodName)) ∈ zz_BW := zz_tw 992 (by decide +kernel) (by decide +kernel)
theorem zw_994 : (Cond.instanceMethod ({ cls := "OpenFloorsModel", name := "isNearer", desc := "(III)Z" } : MethodName)) ∈ zz_BW := zz_tw 994 (by decide +kernel) (by decide +kernel)
theorem zw_995 : (Cond.code ({ cls := "OpenFloorsModel", name := "isNearer", desc := "(III)Z" } : MethodName) prog_5_method_30_code (6 : Nat) (Option.some FieldType.boolean)) ∈ zz_BW := zz_tw 995 (by decide +kernel) (by decide +kernel)
theorem zw_996 : (Cond.methodLink "OpenFloorsLaw" (145 : Nat) ({ cls := "OpenFloorsModel", name := "day", desc := "()I" } : MethodName)) ∈ zz_BW := zz_tw 996 (by decide +kernel) (by decide +kernel)
theorem zw_997 : (Cond.instanceMethod ({ cls := "OpenFloorsModel", name := "day", desc := "()I" } : MethodName)) ∈ zz_BW := zz_tw 997 (by decide +kernel) (by decide +kernel)
theorem zw_998 : (Cond.selects "OpenFloorsModel" ({ cls := "OpenFloorsModel", name := "day", desc := "()I" } : MethodName) ({ cls := "OpenFloorsModel", name := "day", desc := "()I" } : MethodName)) ∈ zz_BW := zz_tw 998 (by decide +kernel) (by decide +kernel)
theorem zw_999 : (Cond.code ({ cls := "OpenFloorsModel", name := "day", desc := "()I" } : MethodName) prog_5_method_33_code (1 : Nat) (Option.some FieldType.int)) ∈ zz_BW := zz_tw 999 (by decide +kernel) (by decide +kernel)
theorem zw_1000 : (Cond.methodLink "OpenFloorsLaw" (148 : Nat) ({ cls := "OpenFloorsModel", name := "comeIn", desc := "(I)I" } : MethodName)) ∈ zz_BW := zz_tw 1000 (by decide +kernel) (by decide +kernel)
theorem zw_1001 : (Cond.instanceMethod ({ cls := "OpenFloorsModel", name := "comeIn", desc := "(I)I" } : MethodName)) ∈ zz_BW := zz_tw 1001 (by decide +kernel) (by decide +kernel)
theorem zw_1002 : (Cond.selects "OpenFloorsModel" ({ cls := "OpenFloorsModel", name := "comeIn", desc := "(I)I" } : MethodName) ({ cls := "OpenFloorsModel", name := "comeIn", desc := "(I)I" } : MethodName)) ∈ zz_BW := zz_tw 1002 (by decide +kernel) (by decide +kernel)
theorem zw_1003 : (Cond.code ({ cls := "OpenFloorsModel", name := "comeIn", desc := "(I)I" } : MethodName) prog_5_method_34_code (2 : Nat) (Option.some FieldType.int)) ∈ zz_BW := zz_tw 1003 (by decide +kernel) (by decide +kernel)
theorem zw_1004 : (Cond.methodLink "OpenFloorsLaw" (151 : Nat) ({ cls := "OpenFloorsModel", name := "leave", desc := "(I)I" } : MethodName)) ∈ zz_BW := zz_tw 1004 (by decide +kernel) (by decide +kernel)
theorem zw_1005 : (Cond.instanceMethod ({ cls := "OpenFloorsModel", name := "leave", desc := "(I)I" } : MethodName)) ∈ zz_BW := zz_tw 1005 (by decide +kernel) (by decide +kernel)
theorem zw_1006 : (Cond.selects "OpenFloorsModel" ({ cls := "OpenFloorsModel", name := "leave", desc := "(I)I" } : MethodName) ({ cls := "OpenFloorsModel", name := "leave", desc := "(I)I" } : MethodName)) ∈ zz_BW := zz_tw 1006 (by decide +kernel) (by decide +kernel)
theorem zw_1007 : (Cond.code ({ cls := "OpenFloorsModel", name := "leave", desc := "(I)I" } : MethodName) prog_5_method_35_code (4 : Nat) (Option.some FieldType.int)) ∈ zz_BW := zz_tw 1007 (by decide +kernel) (by decide +kernel)
theorem zw_1008 : (Cond.methodLink "OpenFloorsLaw" (154 : Nat) ({ cls := "OpenFloorsModel", name := "seatOf", desc := "(I)I" } : MethodName)) ∈ zz_BW := zz_tw 1008 (by decide +kernel) (by decide +kernel)
theorem zw_1009 : (Cond.instanceMethod ({ cls := "OpenFloorsModel", name := "seatOf", desc := "(I)I" } : MethodName)) ∈ zz_BW := zz_tw 1009 (by decide +kernel) (by decide +kernel)
theorem zw_1010 : (Cond.selects "OpenFloorsModel" ({ cls := "OpenFloorsModel", name := "seatOf", desc := "(I)I" } : MethodName) ({ cls := "OpenFloorsModel", name := "seatOf", desc := "(I)I" } : MethodName)) ∈ zz_BW := zz_tw 1010 (by decide +kernel) (by decide +kernel)
theorem zw_1011 : (Cond.code ({ cls := "OpenFloorsModel", name := "seatOf", desc := "(I)I" } : MethodName) prog_5_method_36_code (2 : Nat) (Option.some FieldType.int)) ∈ zz_BW := zz_tw 1011 (by decide +kernel) (by decide +kernel)
theorem zw_1012 : (Cond.methodLink "OpenFloorsLaw" (157 : Nat) ({ cls := "OpenFloorsModel", name := "isIn", desc := "(I)Z" } : MethodName)) ∈ zz_BW := zz_tw 1012 (by decide +kernel) (by decide +kernel)
theorem zw_1013 : (Cond.instanceMethod ({ cls := "OpenFloorsModel", name := "isIn", desc := "(I)Z" } : MethodName)) ∈ zz_BW := zz_tw 1013 (by decide +kernel) (by decide +kernel)
theorem zw_1014 : (Cond.selects "OpenFloorsModel" ({ cls := "OpenFloorsModel", name := "isIn", desc := "(I)Z" } : MethodName) ({ cls := "OpenFloorsModel", name := "isIn", desc := "(I)Z" } : MethodName)) ∈ zz_BW := zz_tw 1014 (by decide +kernel) (by decide +kernel)
theorem zw_1015 : (Cond.code ({ cls := "OpenFloorsModel", name := "isIn", desc := "(I)Z" } : MethodName) prog_5_method_37_code (2 : Nat) (Option.some FieldType.boolean)) ∈ zz_BW := zz_tw 1015 (by decide +kernel) (by decide +kernel)
theorem zw_1016 : (Cond.methodLink "OpenFloorsModel" (131 : Nat) ({ cls := "OpenFloorsModel", name := "asks", desc := "(IZ)Z" } : MethodName)) ∈ zz_BW := zz_tw 1016 (by decide +kernel) (by decide +kernel)
theorem zw_1018 : (Cond.instanceMethod ({ cls := "OpenFloorsModel", name := "asks", desc := "(IZ)Z" } : MethodName)) ∈ zz_BW := zz_tw 1018 (by decide +kernel) (by decide +kernel)
theorem zw_1019 : (Cond.code ({ cls := "OpenFloorsModel", name := "asks", desc := "(IZ)Z" } : MethodName) prog_5_method_6_code (3 : Nat) (Option.some FieldType.boolean)) ∈ zz_BW := zz_tw 1019 (by decide +kernel) (by decide +kernel)
theorem zw_1020 : (Cond.methodLink "OpenFloorsLaw" (160 : Nat) ({ cls := "OpenFloorsModel", name := "isOpen", desc := "(I)Z" } : MethodName)) ∈ zz_BW := zz_tw 1020 (by decide +kernel) (by decide +kernel)
theorem zw_1021 : (Cond.instanceMethod ({ cls := "OpenFloorsModel", name := "isOpen", desc := "(I)Z" } : MethodName)) ∈ zz_BW := zz_tw 1021 (by decide +kernel) (by decide +kernel)
theorem zw_1022 : (Cond.selects "OpenFloorsModel" ({ cls := "OpenFloorsModel", name := "isOpen", desc := "(I)Z" } : MethodName) ({ cls := "OpenFloorsModel", name := "isOpen", desc := "(I)Z" } : MethodName)) ∈ zz_BW := zz_tw 1022 (by decide +kernel) (by decide +kernel)
theorem zw_1023 : (Cond.code ({ cls := "OpenFloorsModel", name := "isOpen", desc := "(I)Z" } : MethodName) prog_5_method_38_code (2 : Nat) (Option.some FieldType.boolean)) ∈ zz_BW := zz_tw 1023 (by decide +kernel) (by decide +kernel)
theorem zw_1024 : (Cond.methodLink "OpenFloorsLaw" (163 : Nat) ({ cls := "OpenFloorsModel", name := "seated", desc := "(II)I" } : MethodName)) ∈ zz_BW := zz_tw 1024 (by decide +kernel) (by decide +kernel)
theorem zw_1025 : (Cond.instanceMethod ({ cls := "OpenFloorsModel", name := "seated", desc := "(II)I" } : MethodName)) ∈ zz_BW := zz_tw 1025 (by decide +kernel) (by decide +kernel)
theorem zw_1026 : (Cond.selects "OpenFloorsModel" ({ cls := "OpenFloorsModel", name := "seated", desc := "(II)I" } : MethodName) ({ cls := "OpenFloorsModel", name := "seated", desc := "(II)I" } : MethodName)) ∈ zz_BW := zz_tw 1026 (by decide +kernel) (by decide +kernel)
theorem zw_1027 : (Cond.code ({ cls := "OpenFloorsModel", name := "seated", desc := "(II)I" } : MethodName) prog_5_method_39_code (3 : Nat) (Option.some FieldType.int)) ∈ zz_BW := zz_tw 1027 (by decide +kernel) (by decide +kernel)
theorem zw_1028 : (Cond.methodLink "OpenFloorsLaw" (166 : Nat) ({ cls := "OpenFloorsModel", name := "pass", desc := "(I)I" } : MethodName)) ∈ zz_BW := zz_tw 1028 (by decide +kernel) (by decide +kernel)
theorem zw_1029 : (Cond.instanceMethod ({ cls := "OpenFloorsModel", name := "pass", desc := "(I)I" } : MethodName)) ∈ zz_BW := zz_tw 1029 (by decide +kernel) (by decide +kernel)
theorem zw_1030 : (Cond.selects "OpenFloorsModel" ({ cls := "OpenFloorsModel", name := "pass", desc := "(I)I" } : MethodName) ({ cls := "OpenFloorsModel", name := "pass", desc := "(I)I" } : MethodName)) ∈ zz_BW := zz_tw 1030 (by decide +kernel) (by decide +kernel)
theorem zw_1031 : (Cond.code ({ cls := "OpenFloorsModel", name := "pass", desc := "(I)I" } : MethodName) prog_5_method_42_code (5 : Nat) (Option.some FieldType.int)) ∈ zz_BW := zz_tw 1031 (by decide +kernel) (by decide +kernel)
theorem zw_1032 : (Cond.methodLink "OpenFloorsModel" (141 : Nat) ({ cls := "OpenFloorsModel", name := "hour", desc := "(I)I" } : MethodName)) ∈ zz_BW := zz_tw 1032 (by decide +kernel) (by decide +kernel)
theorem zw_1034 : (Cond.instanceMethod ({ cls := "OpenFloorsModel", name := "hour", desc := "(I)I" } : MethodName)) ∈ zz_BW := zz_tw 1034 (by decide +kernel) (by decide +kernel)
theorem zw_1035 : (Cond.code ({ cls := "OpenFloorsModel", name := "hour", desc := "(I)I" } : MethodName) prog_5_method_41_code (6 : Nat) (Option.some FieldType.int)) ∈ zz_BW := zz_tw 1035 (by decide +kernel) (by decide +kernel)
theorem zw_1036 : (Cond.methodLink "OpenFloorsModel" (135 : Nat) ({ cls := "OpenFloorsModel", name := "inside", desc := "(I)I" } : MethodName)) ∈ zz_BW := zz_tw 1036 (by decide +kernel) (by decide +kernel)
theorem zw_1038 : (Cond.instanceMethod ({ cls := "OpenFloorsModel", name := "inside", desc := "(I)I" } : MethodName)) ∈ zz_BW := zz_tw 1038 (by decide +kernel) (by decide +kernel)
theorem zw_1039 : (Cond.code ({ cls := "OpenFloorsModel", name := "inside", desc := "(I)I" } : MethodName) prog_5_method_40_code (4 : Nat) (Option.some FieldType.int)) ∈ zz_BW := zz_tw 1039 (by decide +kernel) (by decide +kernel)
theorem zw_1040 : (Cond.methodLink "OpenFloorsLaw" (169 : Nat) ({ cls := "OpenFloorsModel", name := "warmth", desc := "(I)I" } : MethodName)) ∈ zz_BW := zz_tw 1040 (by decide +kernel) (by decide +kernel)
theorem zw_1041 : (Cond.instanceMethod ({ cls := "OpenFloorsModel", name := "warmth", desc := "(I)I" } : MethodName)) ∈ zz_BW := zz_tw 1041 (by decide +kernel) (by decide +kernel)
theorem zw_1042 : (Cond.selects "OpenFloorsModel" ({ cls := "OpenFloorsModel", name := "warmth", desc := "(I)I" } : MethodName) ({ cls := "OpenFloorsModel", name := "warmth", desc := "(I)I" } : MethodName)) ∈ zz_BW := zz_tw 1042 (by decide +kernel) (by decide +kernel)
theorem zw_1043 : (Cond.code ({ cls := "OpenFloorsModel", name := "warmth", desc := "(I)I" } : MethodName) prog_5_method_43_code (2 : Nat) (Option.some FieldType.int)) ∈ zz_BW := zz_tw 1043 (by decide +kernel) (by decide +kernel)
theorem zw_1044 : (Cond.methodLink "OpenFloorsLaw" (172 : Nat) ({ cls := "OpenFloorsModel", name := "air", desc := "(I)I" } : MethodName)) ∈ zz_BW := zz_tw 1044 (by decide +kernel) (by decide +kernel)
theorem zw_1045 : (Cond.instanceMethod ({ cls := "OpenFloorsModel", name := "air", desc := "(I)I" } : MethodName)) ∈ zz_BW := zz_tw 1045 (by decide +kernel) (by decide +kernel)
theorem zw_1046 : (Cond.selects "OpenFloorsModel" ({ cls := "OpenFloorsModel", name := "air", desc := "(I)I" } : MethodName) ({ cls := "OpenFloorsModel", name := "air", desc := "(I)I" } : MethodName)) ∈ zz_BW := zz_tw 1046 (by decide +kernel) (by decide +kernel)
theorem zw_1047 : (Cond.code ({ cls := "OpenFloorsModel", name := "air", desc := "(I)I" } : MethodName) prog_5_method_44_code (2 : Nat) (Option.some FieldType.int)) ∈ zz_BW := zz_tw 1047 (by decide +kernel) (by decide +kernel)
theorem zw_1048 : (Cond.methodLink "OpenFloorsLaw" (177 : Nat) ({ cls := "OpenFloorsModel", name := "energy", desc := "()J" } : MethodName)) ∈ zz_BW := zz_tw 1048 (by decide +kernel) (by decide +kernel)
theorem zw_1049 : (Cond.instanceMethod ({ cls := "OpenFloorsModel", name := "energy", desc := "()J" } : MethodName)) ∈ zz_BW := zz_tw 1049 (by decide +kernel) (by decide +kernel)
theorem zw_1050 : (Cond.selects "OpenFloorsModel" ({ cls := "OpenFloorsModel", name := "energy", desc := "()J" } : MethodName) ({ cls := "OpenFloorsModel", name := "energy", desc := "()J" } : MethodName)) ∈ zz_BW := zz_tw 1050 (by decide +kernel) (by decide +kernel)
theorem zw_1051 : (Cond.code ({ cls := "OpenFloorsModel", name := "energy", desc := "()J" } : MethodName) prog_5_method_46_code (1 : Nat) (Option.some FieldType.long)) ∈ zz_BW := zz_tw 1051 (by decide +kernel) (by decide +kernel)
theorem zw_1052 : (Cond.methodLink "OpenFloorsModel" (147 : Nat) ({ cls := "OpenFloorsModel", name := "tellsLong", desc := "(J)J" } : MethodName)) ∈ zz_BW := zz_tw 1052 (by decide +kernel) (by decide +kernel)
theorem zw_1054 : (Cond.instanceMethod ({ cls := "OpenFloorsModel", name := "tellsLong", desc := "(J)J" } : MethodName)) ∈ zz_BW := zz_tw 1054 (by decide +kernel) (by decide +kernel)
theorem zw_1055 : (Cond.code ({ cls := "OpenFloorsModel", name := "tellsLong", desc := "(J)J" } : MethodName) prog_5_method_45_code (3 : Nat) (Option.some FieldType.long)) ∈ zz_BW := zz_tw 1055 (by decide +kernel) (by decide +kernel)
theorem zw_1056 : (Cond.methodLink "OpenFloorsLaw" (181 : Nat) ({ cls := "OpenFloorsModel", name := "discomfort", desc := "()J" } : MethodName)) ∈ zz_BW := zz_tw 1056 (by decide +kernel) (by decide +kernel)
theorem zw_1057 : (Cond.instanceMethod ({ cls := "OpenFloorsModel", name := "discomfort", desc := "()J" } : MethodName)) ∈ zz_BW := zz_tw 1057 (by decide +kernel) (by decide +kernel)
theorem zw_1058 : (Cond.selects "OpenFloorsModel" ({ cls := "OpenFloorsModel", name := "discomfort", desc := "()J" } : MethodName) ({ cls := "OpenFloorsModel", name := "discomfort", desc := "()J" } : MethodName)) ∈ zz_BW := zz_tw 1058 (by decide +kernel) (by decide +kernel)
theorem zw_1059 : (Cond.code ({ cls := "OpenFloorsModel", name := "discomfort", desc := "()J" } : MethodName) prog_5_method_47_code (1 : Nat) (Option.some FieldType.long)) ∈ zz_BW := zz_tw 1059 (by decide +kernel) (by decide +kernel)
theorem zw_1060 : (Cond.methodLink "OpenFloorsLaw" (185 : Nat) ({ cls := "OpenFloorsModel", name := "cleaning", desc := "()J" } : MethodName)) ∈ zz_BW := zz_tw 1060 (by decide +kernel) (by decide +kernel)
theorem zw_1061 : (Cond.instanceMethod ({ cls := "OpenFloorsModel", name := "cleaning", desc := "()J" } : MethodName)) ∈ zz_BW := zz_tw 1061 (by decide +kernel) (by decide +kernel)
theorem zw_1062 : (Cond.selects "OpenFloorsModel" ({ cls := "OpenFloorsModel", name := "cleaning", desc := "()J" } : MethodName) ({ cls := "OpenFloorsModel", name := "cleaning", desc := "()J" } : MethodName)) ∈ zz_BW := zz_tw 1062 (by decide +kernel) (by decide +kernel)
theorem zw_1063 : (Cond.code ({ cls := "OpenFloorsModel", name := "cleaning", desc := "()J" } : MethodName) prog_5_method_48_code (1 : Nat) (Option.some FieldType.long)) ∈ zz_BW := zz_tw 1063 (by decide +kernel) (by decide +kernel)
theorem zw_1064 : (Cond.methodLink "OpenFloorsLaw" (189 : Nat) ({ cls := "OpenFloorsModel", name := "noShows", desc := "()I" } : MethodName)) ∈ zz_BW := zz_tw 1064 (by decide +kernel) (by decide +kernel)
theorem zw_1065 : (Cond.instanceMethod ({ cls := "OpenFloorsModel", name := "noShows", desc := "()I" } : MethodName)) ∈ zz_BW := zz_tw 1065 (by decide +kernel) (by decide +kernel)
theorem zw_1066 : (Cond.selects "OpenFloorsModel" ({ cls := "OpenFloorsModel", name := "noShows", desc := "()I" } : MethodName) ({ cls := "OpenFloorsModel", name := "noShows", desc := "()I" } : MethodName)) ∈ zz_BW := zz_tw 1066 (by decide +kernel) (by decide +kernel)
theorem zw_1067 : (Cond.code ({ cls := "OpenFloorsModel", name := "noShows", desc := "()I" } : MethodName) prog_5_method_49_code (1 : Nat) (Option.some FieldType.int)) ∈ zz_BW := zz_tw 1067 (by decide +kernel) (by decide +kernel)
theorem zw_1068 : (Cond.methodLink "OpenFloorsLaw" (193 : Nat) ({ cls := "OpenFloorsModel", name := "meanStanding", desc := "()D" } : MethodName)) ∈ zz_BW := zz_tw 1068 (by decide +kernel) (by decide +kernel)
theorem zw_1069 : (Cond.instanceMethod ({ cls := "OpenFloorsModel", name := "meanStanding", desc := "()D" } : MethodName)) ∈ zz_BW := zz_tw 1069 (by decide +kernel) (by decide +kernel)
theorem zw_1070 : (Cond.selects "OpenFloorsModel" ({ cls := "OpenFloorsModel", name := "meanStanding", desc := "()D" } : MethodName) ({ cls := "OpenFloorsModel", name := "meanStanding", desc := "()D" } : MethodName)) ∈ zz_BW := zz_tw 1070 (by decide +kernel) (by decide +kernel)
theorem zw_1071 : (Cond.code ({ cls := "OpenFloorsModel", name := "meanStanding", desc := "()D" } : MethodName) prog_5_method_50_code (3 : Nat) (Option.some FieldType.double)) ∈ zz_BW := zz_tw 1071 (by decide +kernel) (by decide +kernel)
theorem zw_1072 : (Cond.methodLink "OpenFloorsLaw" (196 : Nat) ({ cls := "OpenFloorsModel", name := "givenShare", desc := "()F" } : MethodName)) ∈ zz_BW := zz_tw 1072 (by decide +kernel) (by decide +kernel)
theorem zw_1073 : (Cond.instanceMethod ({ cls := "OpenFloorsModel", name := "givenShare", desc := "()F" } : MethodName)) ∈ zz_BW := zz_tw 1073 (by decide +kernel) (by decide +kernel)
theorem zw_1074 : (Cond.selects "OpenFloorsModel" ({ cls := "OpenFloorsModel", name := "givenShare", desc := "()F" } : MethodName) ({ cls := "OpenFloorsModel", name := "givenShare", desc := "()F" } : MethodName)) ∈ zz_BW := zz_tw 1074 (by decide +kernel) (by decide +kernel)
theorem zw_1075 : (Cond.code ({ cls := "OpenFloorsModel", name := "givenShare", desc := "()F" } : MethodName) prog_5_method_51_code (4 : Nat) (Option.some FieldType.float)) ∈ zz_BW := zz_tw 1075 (by decide +kernel) (by decide +kernel)
theorem zw_1076 : (Cond.methodLink "OpenFloorsLaw" (201 : Nat) ({ cls := "OpenFloorsModel", name := "isSound", desc := "()Z" } : MethodName)) ∈ zz_BW := zz_tw 1076 (by decide +kernel) (by decide +kernel)
theorem zw_1077 : (Cond.instanceMethod ({ cls := "OpenFloorsModel", name := "isSound", desc := "()Z" } : MethodName)) ∈ zz_BW := zz_tw 1077 (by decide +kernel) (by decide +kernel)
theorem zw_1078 : (Cond.selects "OpenFloorsModel" ({ cls := "OpenFloorsModel", name := "isSound", desc := "()Z" } : MethodName) ({ cls := "OpenFloorsModel", name := "isSound", desc := "()Z" } : MethodName)) ∈ zz_BW := zz_tw 1078 (by decide +kernel) (by decide +kernel)
theorem zw_1079 : (Cond.code ({ cls := "OpenFloorsModel", name := "isSound", desc := "()Z" } : MethodName) prog_5_method_52_code (1 : Nat) (Option.some FieldType.boolean)) ∈ zz_BW := zz_tw 1079 (by decide +kernel) (by decide +kernel)
theorem zw_1080 : (Cond.arrayClass FieldType.long) ∈ zz_BW := zz_tw 1080 (by decide +kernel) (by decide +kernel)
theorem zw_1081 : (Cond.arrayClass FieldType.double) ∈ zz_BW := zz_tw 1081 (by decide +kernel) (by decide +kernel)
theorem zw_1082 : (Cond.sameMethod "java/lang/Throwable" "java/lang/Throwable" "fillInStackTrace" "(I)Ljava/lang/Throwable;") ∈ zz_BW := zz_tw 1082 (by decide +kernel) (by decide +kernel)
theorem zw_1098 : (Cond.sameMethod "[Ljava/lang/Object;" "java/lang/Object" "getClass" "()Ljava/lang/Class;") ∈ zz_BW := zz_tw 1098 (by decide +kernel) (by decide +kernel)
theorem zw_1099 : (Cond.selects "[Ljava/lang/Object;" ({ cls := "java/lang/Object", name := "getClass", desc := "()Ljava/lang/Class;" } : MethodName) ({ cls := "java/lang/Object", name := "getClass", desc := "()Ljava/lang/Class;" } : MethodName)) ∈ zz_BW := zz_tw 1099 (by decide +kernel) (by decide +kernel)
theorem zs_0 : Cond.selects "OpenFloors" (⟨"OpenFloors", "findPlanKey", "()I"⟩ : MethodName) (⟨"OpenFloors", "findPlanKey", "()I"⟩ : MethodName) ∈ zz_BW := zz_sw 0 (by decide +kernel) (by decide +kernel)
theorem zs_1 : Cond.selects "OpenFloors" (⟨"OpenFloors", "findKeysUpTo", "(LOpenFloors$Floor;I)V"⟩ : MethodName) (⟨"OpenFloors", "findKeysUpTo", "(LOpenFloors$Floor;I)V"⟩ : MethodName) ∈ zz_BW := zz_sw 1 (by decide +kernel) (by decide +kernel)
theorem zs_2 : Cond.selects "OpenFloors" (⟨"OpenFloors", "lossBetween", "(II)I"⟩ : MethodName) (⟨"OpenFloors", "lossBetween", "(II)I"⟩ : MethodName) ∈ zz_BW := zz_sw 2 (by decide +kernel) (by decide +kernel)
theorem zs_3 : Cond.selects "OpenFloors" (⟨"OpenFloors", "addFloorToSetsOf", "(LOpenFloors$Floor;LOpenFloors$Floor;I)V"⟩ : MethodName) (⟨"OpenFloors", "addFloorToSetsOf", "(LOpenFloors$Floor;LOpenFloors$Floor;I)V"⟩ : MethodName) ∈ zz_BW := zz_sw 3 (by decide +kernel) (by decide +kernel)
theorem zs_4 : Cond.selects "OpenFloors" (⟨"OpenFloors", "allFloors", "()I"⟩ : MethodName) (⟨"OpenFloors", "allFloors", "()I"⟩ : MethodName) ∈ zz_BW := zz_sw 4 (by decide +kernel) (by decide +kernel)
theorem zs_5 : Cond.selects "OpenFloors" (⟨"OpenFloors", "fits", "(I)Z"⟩ : MethodName) (⟨"OpenFloors", "fits", "(I)Z"⟩ : MethodName) ∈ zz_BW := zz_sw 5 (by decide +kernel) (by decide +kernel)
theorem zs_6 : Cond.selects "OpenFloors" (⟨"OpenFloors", "seatsOfSet", "(I)I"⟩ : MethodName) (⟨"OpenFloors", "seatsOfSet", "(I)I"⟩ : MethodName) ∈ zz_BW := zz_sw 6 (by decide +kernel) (by decide +kernel)
theorem zs_7 : Cond.selects "OpenFloors" (⟨"OpenFloors", "lossOfSet", "(I)I"⟩ : MethodName) (⟨"OpenFloors", "lossOfSet", "(I)I"⟩ : MethodName) ∈ zz_BW := zz_sw 7 (by decide +kernel) (by decide +kernel)
theorem zs_8 : Cond.selects "OpenFloors" (⟨"OpenFloors", "distanceToSet", "(LOpenFloors$Floor;I)I"⟩ : MethodName) (⟨"OpenFloors", "distanceToSet", "(LOpenFloors$Floor;I)I"⟩ : MethodName) ∈ zz_BW := zz_sw 8 (by decide +kernel) (by decide +kernel)
theorem zs_9 : Cond.selects "OpenFloors" (⟨"OpenFloors", "peopleAreSound", "()Z"⟩ : MethodName) (⟨"OpenFloors", "peopleAreSound", "()Z"⟩ : MethodName) ∈ zz_BW := zz_sw 9 (by decide +kernel) (by decide +kernel)
theorem zs_10 : Cond.selects "OpenFloors" (⟨"OpenFloors", "floorsAreSound", "()Z"⟩ : MethodName) (⟨"OpenFloors", "floorsAreSound", "()Z"⟩ : MethodName) ∈ zz_BW := zz_sw 10 (by decide +kernel) (by decide +kernel)
theorem zs_11 : Cond.selects "OpenFloors" (⟨"OpenFloors", "countSeatsGivenOn", "(LOpenFloors$Floor;)I"⟩ : MethodName) (⟨"OpenFloors", "countSeatsGivenOn", "(LOpenFloors$Floor;)I"⟩ : MethodName) ∈ zz_BW := zz_sw 11 (by decide +kernel) (by decide +kernel)
theorem zs_12 : Cond.selects "java/lang/Throwable" (⟨"java/lang/Throwable", "fillInStackTrace", "(I)Ljava/lang/Throwable;"⟩ : MethodName) (⟨"java/lang/Throwable", "fillInStackTrace", "(I)Ljava/lang/Throwable;"⟩ : MethodName) ∈ zz_BW := zz_sw 12 (by decide +kernel) (by decide +kernel)
theorem zs_13 : Cond.selects "java/util/ArrayList" (⟨"java/util/ArrayList", "add", "(Ljava/lang/Object;[Ljava/lang/Object;I)V"⟩ : MethodName) (⟨"java/util/ArrayList", "add", "(Ljava/lang/Object;[Ljava/lang/Object;I)V"⟩ : MethodName) ∈ zz_BW := zz_sw 13 (by decide +kernel) (by decide +kernel)
theorem zs_14 : Cond.selects "java/util/ArrayList" (⟨"java/util/ArrayList", "grow", "()[Ljava/lang/Object;"⟩ : MethodName) (⟨"java/util/ArrayList", "grow", "()[Ljava/lang/Object;"⟩ : MethodName) ∈ zz_BW := zz_sw 14 (by decide +kernel) (by decide +kernel)
theorem zs_15 : Cond.selects "java/util/ArrayList" (⟨"java/util/ArrayList", "grow", "(I)[Ljava/lang/Object;"⟩ : MethodName) (⟨"java/util/ArrayList", "grow", "(I)[Ljava/lang/Object;"⟩ : MethodName) ∈ zz_BW := zz_sw 15 (by decide +kernel) (by decide +kernel)
theorem zs_16 : Cond.selects "OpenFloors" (⟨"OpenFloors", "existingFloor", "(I)LOpenFloors$Floor;"⟩ : MethodName) (⟨"OpenFloors", "existingFloor", "(I)LOpenFloors$Floor;"⟩ : MethodName) ∈ zz_BW := zz_sw 16 (by decide +kernel) (by decide +kernel)
theorem zs_17 : Cond.selects "OpenFloors" (⟨"OpenFloors", "existingPerson", "(I)LOpenFloors$Person;"⟩ : MethodName) (⟨"OpenFloors", "existingPerson", "(I)LOpenFloors$Person;"⟩ : MethodName) ∈ zz_BW := zz_sw 17 (by decide +kernel) (by decide +kernel)
theorem zs_18 : Cond.selects "OpenFloors" (⟨"OpenFloors", "removeBooking", "(LOpenFloors$Person;)V"⟩ : MethodName) (⟨"OpenFloors", "removeBooking", "(LOpenFloors$Person;)V"⟩ : MethodName) ∈ zz_BW := zz_sw 18 (by decide +kernel) (by decide +kernel)
theorem zs_19 : Cond.selects "java/util/ArrayList" (⟨"java/util/ArrayList", "fastRemove", "([Ljava/lang/Object;I)V"⟩ : MethodName) (⟨"java/util/ArrayList", "fastRemove", "([Ljava/lang/Object;I)V"⟩ : MethodName) ∈ zz_BW := zz_sw 19 (by decide +kernel) (by decide +kernel)
theorem zs_20 : Cond.selects "OpenFloors" (⟨"OpenFloors", "countNoShows", "()I"⟩ : MethodName) (⟨"OpenFloors", "countNoShows", "()I"⟩ : MethodName) ∈ zz_BW := zz_sw 20 (by decide +kernel) (by decide +kernel)
theorem zs_21 : Cond.selects "OpenFloors" (⟨"OpenFloors", "judgePeople", "()V"⟩ : MethodName) (⟨"OpenFloors", "judgePeople", "()V"⟩ : MethodName) ∈ zz_BW := zz_sw 21 (by decide +kernel) (by decide +kernel)
theorem zs_22 : Cond.selects "OpenFloors" (⟨"OpenFloors", "cleanOpenFloors", "()V"⟩ : MethodName) (⟨"OpenFloors", "cleanOpenFloors", "()V"⟩ : MethodName) ∈ zz_BW := zz_sw 22 (by decide +kernel) (by decide +kernel)
theorem zs_23 : Cond.selects "OpenFloors" (⟨"OpenFloors", "countGuestsOf", "(LOpenFloors$Floor;)I"⟩ : MethodName) (⟨"OpenFloors", "countGuestsOf", "(LOpenFloors$Floor;)I"⟩ : MethodName) ∈ zz_BW := zz_sw 23 (by decide +kernel) (by decide +kernel)
theorem zs_24 : Cond.selects "OpenFloors" (⟨"OpenFloors", "sendPeopleHome", "()V"⟩ : MethodName) (⟨"OpenFloors", "sendPeopleHome", "()V"⟩ : MethodName) ∈ zz_BW := zz_sw 24 (by decide +kernel) (by decide +kernel)
theorem zs_25 : Cond.selects "OpenFloors" (⟨"OpenFloors", "openFloorsOf", "(I)V"⟩ : MethodName) (⟨"OpenFloors", "openFloorsOf", "(I)V"⟩ : MethodName) ∈ zz_BW := zz_sw 25 (by decide +kernel) (by decide +kernel)
theorem zs_26 : Cond.selects "OpenFloors" (⟨"OpenFloors", "giveSeats", "()V"⟩ : MethodName) (⟨"OpenFloors", "giveSeats", "()V"⟩ : MethodName) ∈ zz_BW := zz_sw 26 (by decide +kernel) (by decide +kernel)
theorem zs_27 : Cond.selects "OpenFloors" (⟨"OpenFloors", "giveSeat", "(LOpenFloors$Person;)V"⟩ : MethodName) (⟨"OpenFloors", "giveSeat", "(LOpenFloors$Person;)V"⟩ : MethodName) ∈ zz_BW := zz_sw 27 (by decide +kernel) (by decide +kernel)
theorem zs_28 : Cond.selects "OpenFloors" (⟨"OpenFloors", "suitsBetter", "(LOpenFloors$Person;LOpenFloors$Floor;LOpenFloors$Floor;)Z"⟩ : MethodName) (⟨"OpenFloors", "suitsBetter", "(LOpenFloors$Person;LOpenFloors$Floor;LOpenFloors$Floor;)Z"⟩ : MethodName) ∈ zz_BW := zz_sw 28 (by decide +kernel) (by decide +kernel)
theorem zs_29 : Cond.selects "OpenFloors" (⟨"OpenFloors", "countTeamOn", "(ILOpenFloors$Floor;)I"⟩ : MethodName) (⟨"OpenFloors", "countTeamOn", "(ILOpenFloors$Floor;)I"⟩ : MethodName) ∈ zz_BW := zz_sw 29 (by decide +kernel) (by decide +kernel)
theorem zs_30 : Cond.selects "OpenFloors" (⟨"OpenFloors", "dropBookings", "()V"⟩ : MethodName) (⟨"OpenFloors", "dropBookings", "()V"⟩ : MethodName) ∈ zz_BW := zz_sw 30 (by decide +kernel) (by decide +kernel)
theorem zs_31 : Cond.selects "OpenFloors" (⟨"OpenFloors", "countPeopleIn", "()I"⟩ : MethodName) (⟨"OpenFloors", "countPeopleIn", "()I"⟩ : MethodName) ∈ zz_BW := zz_sw 31 (by decide +kernel) (by decide +kernel)
theorem zs_32 : Cond.selects "OpenFloors" (⟨"OpenFloors", "passHourOn", "(LOpenFloors$Floor;)I"⟩ : MethodName) (⟨"OpenFloors", "passHourOn", "(LOpenFloors$Floor;)I"⟩ : MethodName) ∈ zz_BW := zz_sw 32 (by decide +kernel) (by decide +kernel)
theorem zs_33 : Cond.selects "OpenFloors" (⟨"OpenFloors", "countPresentOn", "(LOpenFloors$Floor;)I"⟩ : MethodName) (⟨"OpenFloors", "countPresentOn", "(LOpenFloors$Floor;)I"⟩ : MethodName) ∈ zz_BW := zz_sw 33 (by decide +kernel) (by decide +kernel)
theorem zs_34 : Cond.selects "OpenFloorsModel" (⟨"OpenFloorsModel", "fails", "(I)I"⟩ : MethodName) (⟨"OpenFloorsModel", "fails", "(I)I"⟩ : MethodName) ∈ zz_BW := zz_sw 34 (by decide +kernel) (by decide +kernel)
theorem zs_35 : Cond.selects "OpenFloorsModel" (⟨"OpenFloorsModel", "tells", "(I)I"⟩ : MethodName) (⟨"OpenFloorsModel", "tells", "(I)I"⟩ : MethodName) ∈ zz_BW := zz_sw 35 (by decide +kernel) (by decide +kernel)
theorem zs_36 : Cond.selects "OpenFloorsModel" (⟨"OpenFloorsModel", "isFloor", "(I)Z"⟩ : MethodName) (⟨"OpenFloorsModel", "isFloor", "(I)Z"⟩ : MethodName) ∈ zz_BW := zz_sw 36 (by decide +kernel) (by decide +kernel)
theorem zs_37 : Cond.selects "OpenFloorsModel" (⟨"OpenFloorsModel", "isPerson", "(I)Z"⟩ : MethodName) (⟨"OpenFloorsModel", "isPerson", "(I)Z"⟩ : MethodName) ∈ zz_BW := zz_sw 37 (by decide +kernel) (by decide +kernel)
theorem zs_38 : Cond.selects "OpenFloorsModel" (⟨"OpenFloorsModel", "bookingOf", "(I)I"⟩ : MethodName) (⟨"OpenFloorsModel", "bookingOf", "(I)I"⟩ : MethodName) ∈ zz_BW := zz_sw 38 (by decide +kernel) (by decide +kernel)
theorem zs_39 : Cond.selects "OpenFloorsModel" (⟨"OpenFloorsModel", "seatsIn", "(I)I"⟩ : MethodName) (⟨"OpenFloorsModel", "seatsIn", "(I)I"⟩ : MethodName) ∈ zz_BW := zz_sw 39 (by decide +kernel) (by decide +kernel)
theorem zs_40 : Cond.selects "OpenFloorsModel" (⟨"OpenFloorsModel", "best", "()I"⟩ : MethodName) (⟨"OpenFloorsModel", "best", "()I"⟩ : MethodName) ∈ zz_BW := zz_sw 40 (by decide +kernel) (by decide +kernel)
theorem zs_41 : Cond.selects "OpenFloorsModel" (⟨"OpenFloorsModel", "fits", "(I)Z"⟩ : MethodName) (⟨"OpenFloorsModel", "fits", "(I)Z"⟩ : MethodName) ∈ zz_BW := zz_sw 41 (by decide +kernel) (by decide +kernel)
theorem zs_42 : Cond.selects "OpenFloorsModel" (⟨"OpenFloorsModel", "loss", "(I)I"⟩ : MethodName) (⟨"OpenFloorsModel", "loss", "(I)I"⟩ : MethodName) ∈ zz_BW := zz_sw 42 (by decide +kernel) (by decide +kernel)
theorem zs_43 : Cond.selects "OpenFloorsModel" (⟨"OpenFloorsModel", "judges", "()I"⟩ : MethodName) (⟨"OpenFloorsModel", "judges", "()I"⟩ : MethodName) ∈ zz_BW := zz_sw 43 (by decide +kernel) (by decide +kernel)
theorem zs_44 : Cond.selects "OpenFloorsModel" (⟨"OpenFloorsModel", "cleans", "()V"⟩ : MethodName) (⟨"OpenFloorsModel", "cleans", "()V"⟩ : MethodName) ∈ zz_BW := zz_sw 44 (by decide +kernel) (by decide +kernel)
theorem zs_45 : Cond.selects "OpenFloorsModel" (⟨"OpenFloorsModel", "gives", "(I)V"⟩ : MethodName) (⟨"OpenFloorsModel", "gives", "(I)V"⟩ : MethodName) ∈ zz_BW := zz_sw 45 (by decide +kernel) (by decide +kernel)
theorem zs_46 : Cond.selects "OpenFloorsModel" (⟨"OpenFloorsModel", "sitting", "(II)I"⟩ : MethodName) (⟨"OpenFloorsModel", "sitting", "(II)I"⟩ : MethodName) ∈ zz_BW := zz_sw 46 (by decide +kernel) (by decide +kernel)
theorem zs_47 : Cond.selects "OpenFloorsModel" (⟨"OpenFloorsModel", "isNearer", "(III)Z"⟩ : MethodName) (⟨"OpenFloorsModel", "isNearer", "(III)Z"⟩ : MethodName) ∈ zz_BW := zz_sw 47 (by decide +kernel) (by decide +kernel)
theorem zs_48 : Cond.selects "OpenFloorsModel" (⟨"OpenFloorsModel", "asks", "(IZ)Z"⟩ : MethodName) (⟨"OpenFloorsModel", "asks", "(IZ)Z"⟩ : MethodName) ∈ zz_BW := zz_sw 48 (by decide +kernel) (by decide +kernel)
theorem zs_49 : Cond.selects "OpenFloorsModel" (⟨"OpenFloorsModel", "hour", "(I)I"⟩ : MethodName) (⟨"OpenFloorsModel", "hour", "(I)I"⟩ : MethodName) ∈ zz_BW := zz_sw 49 (by decide +kernel) (by decide +kernel)
theorem zs_50 : Cond.selects "OpenFloorsModel" (⟨"OpenFloorsModel", "inside", "(I)I"⟩ : MethodName) (⟨"OpenFloorsModel", "inside", "(I)I"⟩ : MethodName) ∈ zz_BW := zz_sw 50 (by decide +kernel) (by decide +kernel)
theorem zs_51 : Cond.selects "OpenFloorsModel" (⟨"OpenFloorsModel", "tellsLong", "(J)J"⟩ : MethodName) (⟨"OpenFloorsModel", "tellsLong", "(J)J"⟩ : MethodName) ∈ zz_BW := zz_sw 51 (by decide +kernel) (by decide +kernel)
/-- the words that are no good words, but move with the state -/
def zz_ng : List Cond := [(Cond.castable "java/lang/IllegalArgumentException" "java/lang/IllegalArgumentException"), (Cond.declares ({ cls := "java/lang/RuntimeException", name := "<init>", desc := "()V" } : MethodName)), (Cond.declares ({ cls := "java/lang/RuntimeException", name := "<init>", desc := "(Ljava/lang/String;)V" } : MethodName)), (Cond.declares ({ cls := "java/lang/Exception", name := "<init>", desc := "()V" } : MethodName)), (Cond.declares ({ cls := "java/lang/Exception", name := "<init>", desc := "(Ljava/lang/String;)V" } : MethodName)), (Cond.declares ({ cls := "java/lang/Throwable", name := "<init>", desc := "()V" } : MethodName)), (Cond.declares ({ cls := "java/lang/Throwable", name := "<init>", desc := "(Ljava/lang/String;)V" } : MethodName)), (Cond.castable "java/lang/IllegalStateException" "java/lang/IllegalStateException"), (Cond.fieldLinkNest "OpenFloors" (121 : Nat) "OpenFloors$Floor" "number" "I" "OpenFloors"), (Cond.fieldLinkNest "OpenFloors" (225 : Nat) "OpenFloors$Floor" "seats" "I" "OpenFloors"), (Cond.fieldLinkNest "OpenFloors" (74 : Nat) "OpenFloors$Floor" "cost" "I" "OpenFloors"), (Cond.fieldLinkNest "OpenFloors" (194 : Nat) "OpenFloors$Floor" "open" "Z" "OpenFloors"), (Cond.fieldLinkNest "OpenFloors" (207 : Nat) "OpenFloors$Floor" "warmth" "I" "OpenFloors"), (Cond.fieldLinkNest "OpenFloors" (210 : Nat) "OpenFloors$Floor" "air" "I" "OpenFloors"), (Cond.castable "java/lang/ArrayIndexOutOfBoundsException" "java/lang/ArrayIndexOutOfBoundsException"), (Cond.declares ({ cls := "java/lang/IndexOutOfBoundsException", name := "<init>", desc := "()V" } : MethodName)), (Cond.declares ({ cls := "java/lang/IndexOutOfBoundsException", name := "<init>", desc := "(Ljava/lang/String;)V" } : MethodName)), (Cond.castable "java/lang/IndexOutOfBoundsException" "java/lang/IndexOutOfBoundsException"), (Cond.fieldLinkNest "OpenFloors" (133 : Nat) "OpenFloors$Person" "number" "I" "OpenFloors"), (Cond.fieldLinkNest "OpenFloors" (308 : Nat) "OpenFloors$Person" "team" "I" "OpenFloors"), (Cond.fieldLinkNest "OpenFloors" (91 : Nat) "OpenFloors$Person" "standing" "I" "OpenFloors"), (Cond.fieldLinkNest "OpenFloors" (94 : Nat) "OpenFloors$Person" "wanted" "LOpenFloors$Floor;" "OpenFloors"), (Cond.fieldLinkNest "OpenFloors" (175 : Nat) "OpenFloors$Person" "seat" "LOpenFloors$Floor;" "OpenFloors"), (Cond.fieldLinkNest "OpenFloors" (180 : Nat) "OpenFloors$Person" "in" "Z" "OpenFloors"), (Cond.fieldLinkNest "OpenFloors" (186 : Nat) "OpenFloors$Person" "came" "Z" "OpenFloors"), (Cond.castable "java/util/NoSuchElementException" "java/util/NoSuchElementException"), (Cond.castable "java/lang/UnsupportedOperationException" "java/lang/UnsupportedOperationException"), (Cond.castable "java/lang/ArithmeticException" "java/lang/ArithmeticException"), (Cond.castable "java/lang/ArrayIndexOutOfBoundsException" "java/lang/IndexOutOfBoundsException"), (Cond.castable "OpenFloors" "java/lang/Object"), (Cond.castable "java/util/ArrayList" "java/lang/Object"), (Cond.castable "OpenFloorsModel" "java/lang/Object"), (Cond.castable "java/lang/IllegalArgumentException" "java/lang/Object"), (Cond.castable "java/lang/IllegalStateException" "java/lang/Object"), (Cond.castable "OpenFloors$Floor" "java/lang/Object"), (Cond.castable "java/lang/ArrayIndexOutOfBoundsException" "java/lang/Object"), (Cond.castable "java/lang/IndexOutOfBoundsException" "java/lang/Object"), (Cond.castable "OpenFloors$Person" "java/lang/Object"), (Cond.castable "java/util/NoSuchElementException" "java/lang/Object"), (Cond.castable "java/lang/UnsupportedOperationException" "java/lang/Object"), (Cond.castable "java/lang/ArithmeticException" "java/lang/Object"), (Cond.castable "java/lang/Throwable" "java/lang/Object"), (Cond.castable "java/lang/String" "java/lang/Object"), (Cond.declares ({ cls := "java/lang/Object", name := "getClass", desc := "()Ljava/lang/Class;" } : MethodName)), (Cond.castable "[B" "java/lang/Object"), (Cond.castable "[I" "java/lang/Object"), (Cond.castable "[Ljava/lang/Object;" "java/lang/Object"), (Cond.castable "[Z" "java/lang/Object"), (Cond.castable "[J" "java/lang/Object"), (Cond.castable "[D" "java/lang/Object")]
theorem zz_ng_in : ∀ w ∈ zz_ng, w ∈ lw_tbl := by
  intro w hw
  obtain ⟨i, hi⟩ := List.getElem?_of_mem hw
  have h : ∀ w ∈ zz_ng, w ∈ tables_1 := by decide +kernel
  exact List.mem_append_right _ (h w hw)
theorem zn_238 : (Cond.castable "java/lang/IllegalArgumentException" "java/lang/IllegalArgumentException") ∈ zz_ng := List.mem_of_getElem? (i := 0) (by decide +kernel)
theorem zn_239 : (Cond.declares ({ cls := "java/lang/RuntimeException", name := "<init>", desc := "()V" } : MethodName)) ∈ zz_ng := List.mem_of_getElem? (i := 1) (by decide +kernel)
theorem zn_240 : (Cond.declares ({ cls := "java/lang/RuntimeException", name := "<init>", desc := "(Ljava/lang/String;)V" } : MethodName)) ∈ zz_ng := List.mem_of_getElem? (i := 2) (by decide +kernel)
theorem zn_241 : (Cond.declares ({ cls := "java/lang/Exception", name := "<init>", desc := "()V" } : MethodName)) ∈ zz_ng := List.mem_of_getElem? (i := 3) (by decide +kernel)
theorem zn_242 : (Cond.declares ({ cls := "java/lang/Exception", name := "<init>", desc := "(Ljava/lang/String;)V" } : MethodName)) ∈ zz_ng := List.mem_of_getElem? (i := 4) (by decide +kernel)
theorem zn_243 : (Cond.declares ({ cls := "java/lang/Throwable", name := "<init>", desc := "()V" } : MethodName)) ∈ zz_ng := List.mem_of_getElem? (i := 5) (by decide +kernel)
theorem zn_244 : (Cond.declares ({ cls := "java/lang/Throwable", name := "<init>", desc := "(Ljava/lang/String;)V" } : MethodName)) ∈ zz_ng := List.mem_of_getElem? (i := 6) (by decide +kernel)
theorem zn_314 : (Cond.castable "java/lang/IllegalStateException" "java/lang/IllegalStateException") ∈ zz_ng := List.mem_of_getElem? (i := 7) (by decide +kernel)
theorem zn_334 : (Cond.fieldLinkNest "OpenFloors" (121 : Nat) "OpenFloors$Floor" "number" "I" "OpenFloors") ∈ zz_ng := List.mem_of_getElem? (i := 8) (by decide +kernel)
theorem zn_336 : (Cond.fieldLinkNest "OpenFloors" (225 : Nat) "OpenFloors$Floor" "seats" "I" "OpenFloors") ∈ zz_ng := List.mem_of_getElem? (i := 9) (by decide +kernel)
theorem zn_338 : (Cond.fieldLinkNest "OpenFloors" (74 : Nat) "OpenFloors$Floor" "cost" "I" "OpenFloors") ∈ zz_ng := List.mem_of_getElem? (i := 10) (by decide +kernel)
theorem zn_340 : (Cond.fieldLinkNest "OpenFloors" (194 : Nat) "OpenFloors$Floor" "open" "Z" "OpenFloors") ∈ zz_ng := List.mem_of_getElem? (i := 11) (by decide +kernel)
theorem zn_342 : (Cond.fieldLinkNest "OpenFloors" (207 : Nat) "OpenFloors$Floor" "warmth" "I" "OpenFloors") ∈ zz_ng := List.mem_of_getElem? (i := 12) (by decide +kernel)
theorem zn_344 : (Cond.fieldLinkNest "OpenFloors" (210 : Nat) "OpenFloors$Floor" "air" "I" "OpenFloors") ∈ zz_ng := List.mem_of_getElem? (i := 13) (by decide +kernel)
theorem zn_437 : (Cond.castable "java/lang/ArrayIndexOutOfBoundsException" "java/lang/ArrayIndexOutOfBoundsException") ∈ zz_ng := List.mem_of_getElem? (i := 14) (by decide +kernel)
theorem zn_438 : (Cond.declares ({ cls := "java/lang/IndexOutOfBoundsException", name := "<init>", desc := "()V" } : MethodName)) ∈ zz_ng := List.mem_of_getElem? (i := 15) (by decide +kernel)
theorem zn_439 : (Cond.declares ({ cls := "java/lang/IndexOutOfBoundsException", name := "<init>", desc := "(Ljava/lang/String;)V" } : MethodName)) ∈ zz_ng := List.mem_of_getElem? (i := 16) (by decide +kernel)
theorem zn_456 : (Cond.castable "java/lang/IndexOutOfBoundsException" "java/lang/IndexOutOfBoundsException") ∈ zz_ng := List.mem_of_getElem? (i := 17) (by decide +kernel)
theorem zn_485 : (Cond.fieldLinkNest "OpenFloors" (133 : Nat) "OpenFloors$Person" "number" "I" "OpenFloors") ∈ zz_ng := List.mem_of_getElem? (i := 18) (by decide +kernel)
theorem zn_487 : (Cond.fieldLinkNest "OpenFloors" (308 : Nat) "OpenFloors$Person" "team" "I" "OpenFloors") ∈ zz_ng := List.mem_of_getElem? (i := 19) (by decide +kernel)
theorem zn_489 : (Cond.fieldLinkNest "OpenFloors" (91 : Nat) "OpenFloors$Person" "standing" "I" "OpenFloors") ∈ zz_ng := List.mem_of_getElem? (i := 20) (by decide +kernel)
theorem zn_491 : (Cond.fieldLinkNest "OpenFloors" (94 : Nat) "OpenFloors$Person" "wanted" "LOpenFloors$Floor;" "OpenFloors") ∈ zz_ng := List.mem_of_getElem? (i := 21) (by decide +kernel)
theorem zn_493 : (Cond.fieldLinkNest "OpenFloors" (175 : Nat) "OpenFloors$Person" "seat" "LOpenFloors$Floor;" "OpenFloors") ∈ zz_ng := List.mem_of_getElem? (i := 22) (by decide +kernel)
theorem zn_495 : (Cond.fieldLinkNest "OpenFloors" (180 : Nat) "OpenFloors$Person" "in" "Z" "OpenFloors") ∈ zz_ng := List.mem_of_getElem? (i := 23) (by decide +kernel)
theorem zn_497 : (Cond.fieldLinkNest "OpenFloors" (186 : Nat) "OpenFloors$Person" "came" "Z" "OpenFloors") ∈ zz_ng := List.mem_of_getElem? (i := 24) (by decide +kernel)
theorem zn_527 : (Cond.castable "java/util/NoSuchElementException" "java/util/NoSuchElementException") ∈ zz_ng := List.mem_of_getElem? (i := 25) (by decide +kernel)
theorem zn_552 : (Cond.castable "java/lang/UnsupportedOperationException" "java/lang/UnsupportedOperationException") ∈ zz_ng := List.mem_of_getElem? (i := 26) (by decide +kernel)
theorem zn_781 : (Cond.castable "java/lang/ArithmeticException" "java/lang/ArithmeticException") ∈ zz_ng := List.mem_of_getElem? (i := 27) (by decide +kernel)
theorem zn_1083 : (Cond.castable "java/lang/ArrayIndexOutOfBoundsException" "java/lang/IndexOutOfBoundsException") ∈ zz_ng := List.mem_of_getElem? (i := 28) (by decide +kernel)
theorem zn_1084 : (Cond.castable "OpenFloors" "java/lang/Object") ∈ zz_ng := List.mem_of_getElem? (i := 29) (by decide +kernel)
theorem zn_1085 : (Cond.castable "java/util/ArrayList" "java/lang/Object") ∈ zz_ng := List.mem_of_getElem? (i := 30) (by decide +kernel)
theorem zn_1086 : (Cond.castable "OpenFloorsModel" "java/lang/Object") ∈ zz_ng := List.mem_of_getElem? (i := 31) (by decide +kernel)
theorem zn_1087 : (Cond.castable "java/lang/IllegalArgumentException" "java/lang/Object") ∈ zz_ng := List.mem_of_getElem? (i := 32) (by decide +kernel)
theorem zn_1088 : (Cond.castable "java/lang/IllegalStateException" "java/lang/Object") ∈ zz_ng := List.mem_of_getElem? (i := 33) (by decide +kernel)
theorem zn_1089 : (Cond.castable "OpenFloors$Floor" "java/lang/Object") ∈ zz_ng := List.mem_of_getElem? (i := 34) (by decide +kernel)
theorem zn_1090 : (Cond.castable "java/lang/ArrayIndexOutOfBoundsException" "java/lang/Object") ∈ zz_ng := List.mem_of_getElem? (i := 35) (by decide +kernel)
theorem zn_1091 : (Cond.castable "java/lang/IndexOutOfBoundsException" "java/lang/Object") ∈ zz_ng := List.mem_of_getElem? (i := 36) (by decide +kernel)
theorem zn_1092 : (Cond.castable "OpenFloors$Person" "java/lang/Object") ∈ zz_ng := List.mem_of_getElem? (i := 37) (by decide +kernel)
theorem zn_1093 : (Cond.castable "java/util/NoSuchElementException" "java/lang/Object") ∈ zz_ng := List.mem_of_getElem? (i := 38) (by decide +kernel)
theorem zn_1094 : (Cond.castable "java/lang/UnsupportedOperationException" "java/lang/Object") ∈ zz_ng := List.mem_of_getElem? (i := 39) (by decide +kernel)
theorem zn_1095 : (Cond.castable "java/lang/ArithmeticException" "java/lang/Object") ∈ zz_ng := List.mem_of_getElem? (i := 40) (by decide +kernel)
theorem zn_1096 : (Cond.castable "java/lang/Throwable" "java/lang/Object") ∈ zz_ng := List.mem_of_getElem? (i := 41) (by decide +kernel)
theorem zn_1097 : (Cond.castable "java/lang/String" "java/lang/Object") ∈ zz_ng := List.mem_of_getElem? (i := 42) (by decide +kernel)
theorem zn_1100 : (Cond.declares ({ cls := "java/lang/Object", name := "getClass", desc := "()Ljava/lang/Class;" } : MethodName)) ∈ zz_ng := List.mem_of_getElem? (i := 43) (by decide +kernel)
theorem zn_1101 : (Cond.castable "[B" "java/lang/Object") ∈ zz_ng := List.mem_of_getElem? (i := 44) (by decide +kernel)
theorem zn_1102 : (Cond.castable "[I" "java/lang/Object") ∈ zz_ng := List.mem_of_getElem? (i := 45) (by decide +kernel)
theorem zn_1103 : (Cond.castable "[Ljava/lang/Object;" "java/lang/Object") ∈ zz_ng := List.mem_of_getElem? (i := 46) (by decide +kernel)
theorem zn_1104 : (Cond.castable "[Z" "java/lang/Object") ∈ zz_ng := List.mem_of_getElem? (i := 47) (by decide +kernel)
theorem zn_1105 : (Cond.castable "[J" "java/lang/Object") ∈ zz_ng := List.mem_of_getElem? (i := 48) (by decide +kernel)
theorem zn_1106 : (Cond.castable "[D" "java/lang/Object") ∈ zz_ng := List.mem_of_getElem? (i := 49) (by decide +kernel)
def zz_str : List (Nat × String) := [(43, "a floor has 1 to 12 seats"), (243, "a cost is 0 to 99"), (58, "there are 6 floors"), (239, "there is no such floor"), (245, "a team is 0 to 3"), (80, "there are 12 people"), (241, "there is no such person"), (98, "the person has a booking"), (109, "all seats are booked"), (114, "the person has no booking"), (126, "there is no such booking"), (145, "there is no such set of floors"), (147, "the set does not fit"), (149, "day 365 is the last one"), (178, "the person has no seat"), (184, "the person is in the building"), (189, "the person is not in the building"), (201, "1 to 24 hours pass"), (219, "there are no people"), (228, "no floor is open")]
theorem zt_43 : ((43, "a floor has 1 to 12 seats") : Nat × String) ∈ zz_str := List.mem_of_getElem? (i := 0) (by decide +kernel)
theorem zt_43_in : Cond.stringRef "OpenFloors" 43 "a floor has 1 to 12 seats" ∈ lw_tbl := zz_tt 281 (by decide +kernel)
theorem zt_243 : ((243, "a cost is 0 to 99") : Nat × String) ∈ zz_str := List.mem_of_getElem? (i := 1) (by decide +kernel)
theorem zt_243_in : Cond.stringRef "OpenFloors" 243 "a cost is 0 to 99" ∈ lw_tbl := zz_tt 311 (by decide +kernel)
theorem zt_58 : ((58, "there are 6 floors") : Nat × String) ∈ zz_str := List.mem_of_getElem? (i := 2) (by decide +kernel)
theorem zt_58_in : Cond.stringRef "OpenFloors" 58 "there are 6 floors" ∈ lw_tbl := zz_tt 321 (by decide +kernel)
theorem zt_239 : ((239, "there is no such floor") : Nat × String) ∈ zz_str := List.mem_of_getElem? (i := 3) (by decide +kernel)
theorem zt_239_in : Cond.stringRef "OpenFloors" 239 "there is no such floor" ∈ lw_tbl := zz_tt 463 (by decide +kernel)
theorem zt_245 : ((245, "a team is 0 to 3") : Nat × String) ∈ zz_str := List.mem_of_getElem? (i := 4) (by decide +kernel)
theorem zt_245_in : Cond.stringRef "OpenFloors" 245 "a team is 0 to 3" ∈ lw_tbl := zz_tt 477 (by decide +kernel)
theorem zt_80 : ((80, "there are 12 people") : Nat × String) ∈ zz_str := List.mem_of_getElem? (i := 5) (by decide +kernel)
theorem zt_80_in : Cond.stringRef "OpenFloors" 80 "there are 12 people" ∈ lw_tbl := zz_tt 478 (by decide +kernel)
theorem zt_241 : ((241, "there is no such person") : Nat × String) ∈ zz_str := List.mem_of_getElem? (i := 6) (by decide +kernel)
theorem zt_241_in : Cond.stringRef "OpenFloors" 241 "there is no such person" ∈ lw_tbl := zz_tt 534 (by decide +kernel)
theorem zt_98 : ((98, "the person has a booking") : Nat × String) ∈ zz_str := List.mem_of_getElem? (i := 7) (by decide +kernel)
theorem zt_98_in : Cond.stringRef "OpenFloors" 98 "the person has a booking" ∈ lw_tbl := zz_tt 549 (by decide +kernel)
theorem zt_109 : ((109, "all seats are booked") : Nat × String) ∈ zz_str := List.mem_of_getElem? (i := 8) (by decide +kernel)
theorem zt_109_in : Cond.stringRef "OpenFloors" 109 "all seats are booked" ∈ lw_tbl := zz_tt 559 (by decide +kernel)
theorem zt_114 : ((114, "the person has no booking") : Nat × String) ∈ zz_str := List.mem_of_getElem? (i := 9) (by decide +kernel)
theorem zt_114_in : Cond.stringRef "OpenFloors" 114 "the person has no booking" ∈ lw_tbl := zz_tt 573 (by decide +kernel)
theorem zt_126 : ((126, "there is no such booking") : Nat × String) ∈ zz_str := List.mem_of_getElem? (i := 10) (by decide +kernel)
theorem zt_126_in : Cond.stringRef "OpenFloors" 126 "there is no such booking" ∈ lw_tbl := zz_tt 594 (by decide +kernel)
theorem zt_145 : ((145, "there is no such set of floors") : Nat × String) ∈ zz_str := List.mem_of_getElem? (i := 11) (by decide +kernel)
theorem zt_145_in : Cond.stringRef "OpenFloors" 145 "there is no such set of floors" ∈ lw_tbl := zz_tt 602 (by decide +kernel)
theorem zt_147 : ((147, "the set does not fit") : Nat × String) ∈ zz_str := List.mem_of_getElem? (i := 12) (by decide +kernel)
theorem zt_147_in : Cond.stringRef "OpenFloors" 147 "the set does not fit" ∈ lw_tbl := zz_tt 603 (by decide +kernel)
theorem zt_149 : ((149, "day 365 is the last one") : Nat × String) ∈ zz_str := List.mem_of_getElem? (i := 13) (by decide +kernel)
theorem zt_149_in : Cond.stringRef "OpenFloors" 149 "day 365 is the last one" ∈ lw_tbl := zz_tt 611 (by decide +kernel)
theorem zt_178 : ((178, "the person has no seat") : Nat × String) ∈ zz_str := List.mem_of_getElem? (i := 14) (by decide +kernel)
theorem zt_178_in : Cond.stringRef "OpenFloors" 178 "the person has no seat" ∈ lw_tbl := zz_tt 681 (by decide +kernel)
theorem zt_184 : ((184, "the person is in the building") : Nat × String) ∈ zz_str := List.mem_of_getElem? (i := 15) (by decide +kernel)
theorem zt_184_in : Cond.stringRef "OpenFloors" 184 "the person is in the building" ∈ lw_tbl := zz_tt 682 (by decide +kernel)
theorem zt_189 : ((189, "the person is not in the building") : Nat × String) ∈ zz_str := List.mem_of_getElem? (i := 16) (by decide +kernel)
theorem zt_189_in : Cond.stringRef "OpenFloors" 189 "the person is not in the building" ∈ lw_tbl := zz_tt 690 (by decide +kernel)
theorem zt_201 : ((201, "1 to 24 hours pass") : Nat × String) ∈ zz_str := List.mem_of_getElem? (i := 17) (by decide +kernel)
theorem zt_201_in : Cond.stringRef "OpenFloors" 201 "1 to 24 hours pass" ∈ lw_tbl := zz_tt 730 (by decide +kernel)
theorem zt_219 : ((219, "there are no people") : Nat × String) ∈ zz_str := List.mem_of_getElem? (i := 18) (by decide +kernel)
theorem zt_219_in : Cond.stringRef "OpenFloors" 219 "there are no people" ∈ lw_tbl := zz_tt 792 (by decide +kernel)
theorem zt_228 : ((228, "no floor is open") : Nat × String) ∈ zz_str := List.mem_of_getElem? (i := 19) (by decide +kernel)
theorem zt_228_in : Cond.stringRef "OpenFloors" 228 "no floor is open" ∈ lw_tbl := zz_tt 801 (by decide +kernel)
end
section
section VXIA
variable {p : Program} {l : Launch} {e : Env} {R : Room} {s : State} {m : MethodId} {args : Array Value} {below : List Frame} {meth : Method} {c : Code} {T : State} {locs : List Loc} {cells slots : Nat}
theorem vx_callI (X : Stand p l e R s m args below meth c T locs cells slots) (hexec : p.tables.exec = Jvm.exec) {own : String} {index : Nat} {y : MethodName} {bytes : ByteArray} {maxL : Nat}
    (hown : s.vm.findClass own = some m.cls) (hy1 : y.name = "<init>") (hlink : (Cond.methodLink own index y).before args s = true) (hinst : (Cond.instanceMethod y).before args s = true)
    (hcode : (Cond.code y bytes maxL none).before args s = true) (hy : y.cls ≠ "java/lang/invoke/MethodHandle" ∧ y.cls ≠ "java/lang/invoke/VarHandle")
    {W9 : Nat} {Pre : Pt → Array Value → Prop} {Post : Pt → Array Value → Option Value → Pt → Prop} {PostX : Pt → Array Value → Addr → Pt → Prop} (hK : vx_Back l R p e below s args y 3 W9 Pre Post PostX)
    {g : JFrame} (hg : g.method = m) (hsize : g.locals.size = c.maxLocals) {a : Addr} {argsL rest : List Value} (hlen : ∀ sig, parseMethodDescriptor y.desc = some sig → argsL.length = sig.parameters.length)
    (hstack : g.stack = argsL.reverse ++ .ref a :: rest) (hW : 2 * g.monitorRoom + (rest.map fun v => v.category).sum ≤ W9) (hdg : decode c.code g.pc = .ok (.invokespecial index, 3))
    (hpre : ∀ vm₁, s.WarmedH vm₁ → Pre ⟨T.setVm vm₁, locs, cells, slots⟩ (Value.ref a :: argsL).toArray) :
    (∃ (v : Option Value) (vm₁ : Vm) (B : Pt), s.WarmedH vm₁ ∧ Stand p l e R s m args below meth c B.U B.locs B.cells B.slots ∧ Post ⟨T.setVm vm₁, locs, cells, slots⟩ (Value.ref a :: argsL).toArray v B ∧
      ∀ target, Steps p.tables e below (B.U.setTop { g with pc := g.pc + 3, stack := v.toList ++ rest }) target → Steps p.tables e below (T.setTop g) target) ∨
    (∃ (q : Addr) (vm₁ : Vm) (B : Pt), s.WarmedH vm₁ ∧ Stand p l e R s m args below meth c B.U B.locs B.cells B.slots ∧ PostX ⟨T.setVm vm₁, locs, cells, slots⟩ (Value.ref a :: argsL).toArray q B ∧
      Steps p.tables e below (T.setTop g) ((B.U.setTop { g with stack := rest }).pushFrame (.throwing q))) := by
  subst hg
  have hpl : e.platform.magicAccessors = ({} : Platform).magicAccessors := by rw [X.admits.platform]
  obtain ⟨mk, methM, cM, kP, vm₁, hnamed, hmethM, hcodeM, -, hlocalsM, -, hkP, -, hW₁, hstep₁⟩ := Steps.initColdArgs (e := e) X.here hexec X.warmed hpl hown hy1 hy hlink hinst hcode (f := g) rfl hlen hstack hdg
  have X₁ := X.noted hW₁
  rcases hK g.method meth c ⟨T.setVm vm₁, locs, cells, slots⟩ { g with stack := rest } (.invokespecial index) mk (Value.ref a :: argsL).toArray X₁ rfl hsize hdg hW (X₁.named hnamed) (hpre vm₁ X₁.warmed) with ⟨v, B, X', hpost, hsteps⟩ | ⟨q, B, X', hpost, hsteps⟩
  · exact Or.inl ⟨v, vm₁, B, X₁.warmed, X', hpost, fun target h => hstep₁ _ fun acts => by rw [doInvoke_state]; exact hsteps.trans h⟩
  · exact Or.inr ⟨q, vm₁, B, X₁.warmed, X', hpost, hstep₁ _ fun acts => by rw [doInvoke_state]; exact hsteps⟩
end VXIA
section VXIB
variable {p : Program} {l : Launch} {e : Env} {R : Room} {s : State} {m : MethodId} {args : Array Value} {below : List Frame} {meth : Method} {c : Code} {H : Heap} {locs : List Loc} {cells slots : Nat}
variable {y : MethodName} {bytes cc : ByteArray} {maxL nL mc ms n index : Nat} {ret : Option FieldType} {ws : List Cond} {rm : Room} {Pc : Array Value → State → Prop} {Qc : Array Value → State → Outcome → State → Prop} {XC : String → State → State → Prop} {free : Addr → Prop} {Ts : List Cond} {own C : String} {b : Addr} {As rest : List Value} {g : JFrame}
theorem vx_runI (S : CallFix p m c cc nL s args Ts own) (hM : vx_Met l y ws rm Pc Qc XC mc ms free) (cw : CallB R s args own index y bytes maxL none ws rm mc ms n ∧ y.name = "<init>" ∧ (Cond.instanceMethod y).before args s = true) (hp : PreS s H Pc (.ref b :: As))
    (hg : g.method = m) (hn : As.length = n) (hsize : g.locals.size = nL) (hstack : g.stack = As.reverse ++ .ref b :: rest) (hW : 2 * g.monitorRoom + (rest.map fun v => v.category).sum ≤ 8) (hdg : decode cc g.pc = .ok (.invokespecial index, 3)) (hf : cells + mc ≤ R.cells ∧ slots + ms ≤ R.slots) :
    vx_Run p l e R s m args below meth c H locs cells slots mc ms g rest (Qc (Value.ref b :: As).toArray) XC free := by
  have hK : vx_Back l R p e below s args y 3 8 (PreOf R mc ms Pc) (PostOf Qc mc ms free) (vx_Post XC mc ms free) := vx_callBack cw.1 hM hp.1
  obtain ⟨⟨-, -, -, -, -, -, hcode, -, hy, hlen, hl⟩, hy1, hin⟩ := cw
  obtain ⟨hx, hb, hml, ho, -⟩ := S
  have hPc := hp.2
  intro T hT X
  rcases vx_callI X hx (bytes := bytes) (maxL := maxL) ho hy1 hl hin hcode hy hK hg (hsize.trans hml.symm) (a := b) (argsL := As) (rest := rest) (fun sig h => hn.trans (hlen sig h)) hstack hW (by rw [hb]; exact hdg)
    (fun vm₁ hW₁ => ⟨hf.1, hf.2, hPc (T.setVm vm₁) hT hW₁⟩) with ⟨v, vm₁, ⟨U', l2, c2, s2⟩, hW₁, X', ⟨g', mk, t, L, e1, e2, hq, h1, hL, h2, h3⟩, st⟩ | ⟨q, vm₁, ⟨U', l2, c2, s2⟩, hW₁, X', ⟨g', mk, t, L, E, ce, e1, e2, hq, hce, hcv, hcl, h1, hL, h2, h3⟩, st⟩
  · dsimp only [Pt.U, Pt.locs, Pt.cells, Pt.slots] at X' e1 e2 h1 h2 h3 st
    subst h1; subst h2; subst h3
    exact Or.inl ⟨v, (T.setVm vm₁).calling g' mk (Value.ref b :: As).toArray, t, U', L, hT, X', hL, e1, e2, hq, st⟩
  · dsimp only [Pt.U, Pt.locs, Pt.cells, Pt.slots] at X' e1 e2 h1 h2 h3 st hcl
    subst h1; subst h2; subst h3
    exact Or.inr ⟨q, (T.setVm vm₁).calling g' mk (Value.ref b :: As).toArray, t, U', L, E, ce, hT, X', hL, e1, e2, hq, hce, hcv, vx_cls hW₁ hcl, st⟩
end VXIB
/-! own layer: what stands in every state, one form of contract, calls and ends in that form -/
abbrev zz_G : Type := va_G × (Nat → ClassId) × (Nat → Nat)
abbrev zz_at (K : zz_G) (a : Nat) (e : va_E) (H : Heap) : Prop := va_at K.1 vwCl (a, e) H
def zz_ty (K : zz_G) : List (ClassId × FieldType) := [(K.2.1 0, .int), (K.2.1 1, .boolean), (K.2.1 2, .object "java/lang/Object"), (K.2.1 3, .long), (K.2.1 4, .double)]
def zz_ex : List String := ["java/lang/IllegalArgumentException", "java/lang/IllegalStateException", "java/lang/IndexOutOfBoundsException", "java/util/NoSuchElementException", "java/lang/UnsupportedOperationException", "java/lang/ArithmeticException"]
def zz_E (K : zz_G) (A : Nat → Prop) (U : State) (H : Heap) : Prop :=
  (va_K K.1 vwCl (zz_ty K) U ∧ (∀ w ∈ zz_ng, va_Nw w U) ∧ va_AO "java/lang/Object" U ∧ va_Mi "[Ljava/lang/Object;" (K.2.2 1) U ∧ va_Dc U ∧ (∀ q ∈ zz_str, ∃ sa, vk_R RX2 q.1 q.2 sa U) ∧ (∀ x ∈ zz_ex, ∀ y ∈ zz_ex, x ≠ y → va_Nc x y U)) ∧
  (vx_Zq Bundle.tN "UNASSIGNED_STACK" Bundle.steD A U H ∧ vx_Zq Bundle.tN "SUPPRESSED_SENTINEL" Bundle.listD A U H ∧ va_Z RJx4a65c "DEFAULTCAPACITY_EMPTY_ELEMENTDATA" "[Ljava/lang/Object;" (.ref (K.2.2 0)) A U H ∧ va_T (.object "java/lang/Object") (K.2.2 0) 0 (fun _ => .null) A U H)
def zz_mv : Cond → Bool
  | .fieldLinkNest .. | .declares _ | .castable .. => true
  | _ => false
theorem zz_ng_mv : ∀ w ∈ zz_ng, zz_mv w = true := by decide +kernel
theorem zz_nw {w : Cond} (h : zz_mv w = true) {s U : State} (hW : s.WarmedH U.vm) (hw : va_Nw w s) : va_Nw w U := by
  cases w <;> first | exact va_Nw.warmF hW hw | exact va_Nw.warmD hW hw | exact va_Nw.warmC hW hw | (simp [zz_mv] at h)
theorem zz_E.moved {K : zz_G} {A : Nat → Prop} {u U : State} {H : Heap} (hW : u.WarmedH U.vm) (h : zz_E K A u H) : zz_E K A U H := by
  obtain ⟨⟨h1, h2, h3, h4, h5, h6, h7⟩, h8, h9, h10, h11⟩ := h
  have hv := hW.alike
  exact ⟨⟨h1.moved hv, fun w hw => zz_nw (zz_ng_mv w hw) hW (h2 w hw), h3.moved hv, h4.moved hv, h5.moved hv, fun q hq => by obtain ⟨sa, ha⟩ := h6 q hq; exact ⟨sa, vk_R.warm hW ha⟩, fun x hx y hy hn => (h7 x hx y hy hn).moved hv⟩, h8.moved hv, h9.moved hv, h10.moved hv, h11.moved hv⟩
theorem zz_E.kept {K : zz_G} {A : Nat → Prop} {U : State} {H H1 : Heap} (h : zz_E K A U H) (hq : ∀ a : Nat, a < H.size → ¬ A a → H1[a]? = H[a]?) : zz_E K A U H1 :=
  ⟨h.1, h.2.1.kept hq, h.2.2.1.kept hq, h.2.2.2.1.kept hq, h.2.2.2.2.kept hq⟩
theorem zz_E.narrow {K : zz_G} {A B : Nat → Prop} {U : State} {H : Heap} (h : zz_E K A U H) (hAB : ∀ q, B q → A q) : zz_E K B U H :=
  ⟨h.1, h.2.1.narrow hAB, h.2.2.1.narrow hAB, h.2.2.2.1.narrow hAB, h.2.2.2.2.narrow hAB⟩
theorem zz_E.K {K : zz_G} {A : Nat → Prop} {U : State} {H : Heap} (h : zz_E K A U H) : va_K K.1 vwCl (zz_ty K) U := h.1.1
theorem zz_E.N {K : zz_G} {A : Nat → Prop} {U : State} {H : Heap} (h : zz_E K A U H) : ∀ w ∈ zz_ng, va_Nw w U := h.1.2.1
/-- a change of the heap within A -/
def zz_fr (A : Nat → Prop) (H H1 : Heap) : Prop := H.size ≤ H1.size ∧ ∀ q : Nat, q < H.size → ¬ A q → H1[q]? = H[q]?
def zz_no : Nat → Prop := fun _ => False
theorem zz_fr.rf {A : Nat → Prop} {H : Heap} : zz_fr A H H := ⟨Nat.le_refl _, fun _ _ _ => rfl⟩
theorem zz_fr.mono {A B : Nat → Prop} {H H1 : Heap} (h : zz_fr A H H1) (hAB : ∀ q, A q → B q) : zz_fr B H H1 := ⟨h.1, fun q h1 h2 => h.2 q h1 (fun z => h2 (hAB q z))⟩
theorem zz_fr.tr {A : Nat → Prop} {H H1 H2 : Heap} (h : zz_fr A H H1) (g : zz_fr A H1 H2) : zz_fr A H H2 := ⟨Nat.le_trans h.1 g.1, fun q h1 h2 => (g.2 q (Nat.lt_of_lt_of_le h1 h.1) h2).trans (h.2 q h1 h2)⟩
theorem zz_at.ro {K : zz_G} {a : Nat} {e : va_E} {H H1 : Heap} (h : zz_at K a e H) (g : zz_fr zz_no H H1) : zz_at K a e H1 := va_at.kept h (g.2 _ (va_at.lt h) (fun z => z))
theorem zz_at.fr {K : zz_G} {A : Nat → Prop} {a : Nat} {e : va_E} {H H1 : Heap} (h : zz_at K a e H) (g : zz_fr A H H1) (hA : ¬ A a) : zz_at K a e H1 := va_at.kept h (g.2 _ (va_at.lt h) hA)
theorem zz_Smono {A B : Nat → Prop} {H0 H : Heap} {locs : List Loc} (h : va_S A H0 H locs) (hAB : ∀ q, A q → B q) : va_S B H0 H locs := ⟨h.1, fun q h1 h2 => h.2.1 q h1 (fun z => h2 (hAB q z)), fun q hq => hAB _ (h.2.2 q hq)⟩
def zz_Pc (K : zz_G) (A : Nat → Prop) (as : List Value) (P : Heap → Prop) : Array Value → State → Prop := fun a U => a = as.toArray ∧ zz_E K A U U.heap ∧ (∀ q : Nat, U.heap.size ≤ q → A q) ∧ P U.heap
def zz_Qc (Q : Option Value → Heap → Heap → Prop) (B : Nat → Prop) : Array Value → State → Outcome → State → Prop := fun _ st o t => ∃ v, o = .returned v ∧ Q v st.heap t.heap ∧ zz_fr B st.heap t.heap
def zz_XC (X : String → Heap → Heap → Prop) : String → State → State → Prop := fun E st t => X E st.heap t.heap ∧ zz_fr zz_no st.heap t.heap
theorem zz_blind {K : zz_G} {A : Nat → Prop} {as : List Value} {P : Heap → Prop} : FrameBlind (zz_Pc K A as P) := fun a U g mk q => ⟨q.1, zz_E.moved (u := U) (U := U.calling g mk a) (State.WarmedH.refl U) q.2.1, q.2.2.1, q.2.2.2⟩
abbrev zz_ws (y : MethodName) (cc : ByteArray) (n : Nat) (r : Option FieldType) : List Cond := .code y cc n r :: zz_BW
def zz_C (l : Launch) (y : MethodName) (cc : ByteArray) (n : Nat) (r : Option FieldType) (rm : Room) (K : zz_G) (A : Nat → Prop) (as : List Value) (P : Heap → Prop) (Q : Option Value → Heap → Heap → Prop) (X : String → Heap → Heap → Prop) (B : Nat → Prop) : Prop :=
  vx_Met l y (zz_ws y cc n r) rm (zz_Pc K A as P) (zz_Qc Q B) (zz_XC X) rm.cells rm.slots B
/-- a method that throws nothing -/
def zz_nx : String → Heap → Heap → Prop := fun _ _ _ => False
section ZB
variable {p : Program} {l : Launch} {e : Env} {R : Room} {s : State} {m : MethodId} {args : Array Value} {below : List Frame} {meth : Method} {c : Code} {H : Heap} {locs : List Loc} {cells slots : Nat} {Qf : State → Prop}
variable {cc : ByteArray} {pc : Nat} {ls : Array Slot} {rest st0 : List Value} {K : zz_G} {A B : Nat → Prop} {H0 : Heap} {mc ms : Nat}
theorem zz_body {y : MethodName} {n : Nat} {r : Option FieldType} {rm : Room} {as : List Value} {P : Heap → Prop} {Q : Option Value → Heap → Heap → Prop} {X : String → Heap → Heap → Prop} (hy : plainName y.cls = true) (hn : (lg_sl as).length ≤ n)
    (body : ∀ (p : Program) (e : Env) (s : State) (m : MethodId) (below : List Frame) (meth : Method) (c : Code) (ls : Array Slot), p.tables.exec = Jvm.exec → c.code = cc → meth.sig.returnType = r → c.maxLocals = n → (∀ w ∈ zz_BW, w.before as.toArray s = true) → s.vm.findClass y.cls = some m.cls → meth.locks = false → meth.name = y.name → (∀ x ∈ c.exceptionTable.toList, False) →
      zz_E K A s s.heap → (∀ q : Nat, s.heap.size ≤ q → A q) → P s.heap → lv_has ls n (lv_args 0 as) → W p l e rm s m as.toArray below meth c s.heap [] 0 0 (vx_MQ below (zz_Qc Q B) (zz_XC X) as.toArray s rm.cells rm.slots B) (F0 m 0 ls [])) : zz_C l y cc n r rm K A as P Q X B := by
  refine vx_ofW hy rfl ?_
  intro p e s m args below meth c s₁ B' hml htab hv
  obtain ⟨rfl, hE, hA, hP⟩ := hv
  rw [lg_entry_eq]
  exact body p e s m below meth c _ B'.exec B'.bytes B'.returns hml (fun w hw => atoms_spec (ws := zz_ws y cc n r) B'.pre w (List.mem_cons_of_mem _ hw)) (findClass_of_methodNamed B'.named) B'.notSynchronized (name_of_methodNamed B'.named B'.method).1 htab hE hA hP (lv_entry as hn)
section ZR
variable {Q : Option Value → Heap → Heap → Prop} {X : String → Heap → Heap → Prop}
theorem zz_vret (hx : p.tables.exec = Jvm.exec) (hb : c.code = cc) (hr : meth.sig.returnType = none) (hlocks : meth.locks = false) (hS : va_S B s.heap H locs) (hc : cells ≤ mc) (hs : slots ≤ ms) (hdg : decode cc pc = .ok (.return_, 1)) (hq : Q none s.heap H) :
    W p l e R s m args below meth c H locs cells slots (vx_MQ below (zz_Qc Q B) (zz_XC X) args s mc ms B) (F0 m pc ls []) :=
  W.widen hc hs (vx_ret (W.vret hx hb hr (fun t ht _ => ⟨_, rfl, by rw [ht]; exact hq, by rw [ht]; exact ⟨hS.1, hS.2.1⟩⟩) hS.2.2 hdg hlocks))
theorem zz_iret {v : Int32} (hx : p.tables.exec = Jvm.exec) (hb : c.code = cc) (hr : meth.sig.returnType = some .int) (hlocks : meth.locks = false) (hS : va_S B s.heap H locs) (hc : cells ≤ mc) (hs : slots ≤ ms) (hdg : decode cc pc = .ok (.ireturn, 1)) (hq : Q (some (.int v)) s.heap H) :
    W p l e R s m args below meth c H locs cells slots (vx_MQ below (zz_Qc Q B) (zz_XC X) args s mc ms B) (F0 m pc ls [.int v]) :=
  W.widen hc hs (vx_ret (W.iret hx hb hr (fun t ht _ => ⟨_, rfl, by rw [ht]; exact hq, by rw [ht]; exact ⟨hS.1, hS.2.1⟩⟩) hS.2.2 hdg hlocks))
theorem zz_zret {v : Int32} (hx : p.tables.exec = Jvm.exec) (hb : c.code = cc) (hr : meth.sig.returnType = some .boolean) (hlocks : meth.locks = false) (hS : va_S B s.heap H locs) (hc : cells ≤ mc) (hs : slots ≤ ms) (hdg : decode cc pc = .ok (.ireturn, 1)) (hv : v = 0 ∨ v = 1) (hq : Q (some (.int v)) s.heap H) :
    W p l e R s m args below meth c H locs cells slots (vx_MQ below (zz_Qc Q B) (zz_XC X) args s mc ms B) (F0 m pc ls [.int v]) :=
  W.widen hc hs (vx_ret (W.zret (ty := .boolean) hx hb hr (by rcases hv with rfl | rfl <;> rfl) (fun t ht _ => ⟨_, rfl, by rw [ht]; exact hq, by rw [ht]; exact ⟨hS.1, hS.2.1⟩⟩) hS.2.2 hdg hlocks))
theorem zz_lret {v : Int64} (hx : p.tables.exec = Jvm.exec) (hb : c.code = cc) (hr : meth.sig.returnType = some .long) (hlocks : meth.locks = false) (hS : va_S B s.heap H locs) (hc : cells ≤ mc) (hs : slots ≤ ms) (hdg : decode cc pc = .ok (.lreturn, 1)) (hq : Q (some (.long v)) s.heap H) :
    W p l e R s m args below meth c H locs cells slots (vx_MQ below (zz_Qc Q B) (zz_XC X) args s mc ms B) (F0 m pc ls [.long v]) :=
  W.widen hc hs (vx_ret (W.lret hx hb hr (fun t ht _ => ⟨_, rfl, by rw [ht]; exact hq, by rw [ht]; exact ⟨hS.1, hS.2.1⟩⟩) hS.2.2 hdg hlocks))
theorem zz_dret {v : UInt64} (hx : p.tables.exec = Jvm.exec) (hb : c.code = cc) (hr : meth.sig.returnType = some .double) (hlocks : meth.locks = false) (hS : va_S B s.heap H locs) (hc : cells ≤ mc) (hs : slots ≤ ms) (hdg : decode cc pc = .ok (.dreturn, 1)) (hq : Q (some (.double v)) s.heap H) :
    W p l e R s m args below meth c H locs cells slots (vx_MQ below (zz_Qc Q B) (zz_XC X) args s mc ms B) (F0 m pc ls [.double v]) :=
  W.widen hc hs (vx_ret (W.dret hx hb hr (fun t ht _ => ⟨_, rfl, by rw [ht]; exact hq, by rw [ht]; exact ⟨hS.1, hS.2.1⟩⟩) hS.2.2 hdg hlocks))
theorem zz_fret {v : UInt32} (hx : p.tables.exec = Jvm.exec) (hb : c.code = cc) (hr : meth.sig.returnType = some .float) (hlocks : meth.locks = false) (hS : va_S B s.heap H locs) (hc : cells ≤ mc) (hs : slots ≤ ms) (hdg : decode cc pc = .ok (.freturn, 1)) (hq : Q (some (.float v)) s.heap H) :
    W p l e R s m args below meth c H locs cells slots (vx_MQ below (zz_Qc Q B) (zz_XC X) args s mc ms B) (F0 m pc ls [.float v]) :=
  W.widen hc hs (vx_ret (W.fret hx hb hr (fun t ht _ => ⟨_, rfl, by rw [ht]; exact hq, by rw [ht]; exact ⟨hS.1, hS.2.1⟩⟩) hS.2.2 hdg hlocks))
theorem zz_aret {rx : Option Nat} {rt : FieldType} (hx : p.tables.exec = Jvm.exec) (hb : c.code = cc) (hr : meth.sig.returnType = some rt) (hrt : (∃ n, rt = .object n) ∨ ∃ t, rt = .array t) (hlocks : meth.locks = false) (hS : va_S B s.heap H locs) (hc : cells ≤ mc) (hs : slots ≤ ms) (hdg : decode cc pc = .ok (.areturn, 1)) (hq : Q (some (va_rf rx)) s.heap H) :
    W p l e R s m args below meth c H locs cells slots (vx_MQ below (zz_Qc Q B) (zz_XC X) args s mc ms B) (F0 m pc ls [va_rf rx]) :=
  W.widen hc hs (vx_ret (W.aret hx hb hr hrt (by cases rx with | none => exact Or.inl rfl | some a => exact Or.inr ⟨a, rfl⟩) (fun t ht _ => ⟨_, rfl, by rw [ht]; exact hq, by rw [ht]; exact ⟨hS.1, hS.2.1⟩⟩) hS.2.2 hdg hlocks))
end ZR
/-- what a call wants of its callee's words and room -/
theorem zz_cb {own : String} {index : Nat} {y : MethodName} {cy : ByteArray} {ny : Nat} {ry : Option FieldType} {rm : Room} {k : Nat} (hts : ∀ w ∈ zz_BW, w.before args s = true) (hlink : Cond.methodLink own index y ∈ zz_BW) (hini : Cond.initialized y.cls ∈ zz_BW) (hcode : Cond.code y cy ny ry ∈ zz_BW)
    (hd : y.cls ≠ "java/lang/invoke/MethodHandle" ∧ y.cls ≠ "java/lang/invoke/VarHandle" ∧ (parseMethodDescriptor y.desc).map (fun d => d.parameters.length) = some k) (hR : rm.frames + 1 ≤ R.frames ∧ 8 + (ny + 11) + rm.locals ≤ R.locals) :
    CallB R s args own index y cy ny ry (zz_ws y cy ny ry) rm rm.cells rm.slots k := by
  refine ⟨rfl, rfl, hR.1, hR.2, ?_, List.mem_cons_self, hts _ hcode, hts _ hini, ⟨hd.1, hd.2.1⟩, fun sig h => ?_, hts _ hlink⟩
  · intro w hw a' U hW
    have hm : w ∈ zz_BW := (List.mem_cons.mp hw).elim (fun e => e ▸ hcode) id
    exact word_at hW (good_of_word (List.mem_filter.mp hm).2) (hts w hm)
  · have h2 := hd.2.2
    rw [h] at h2
    exact (Option.some.inj h2).symm
theorem zz_pre {as : List Value} {P : Heap → Prop} (hE : zz_E K A s H) (hA : ∀ q : Nat, H.size ≤ q → A q) (hP : P H) : ∀ U : State, U.heap = H → s.WarmedH U.vm → zz_Pc K A as P as.toArray U := fun U hU hW => ⟨rfl, by rw [hU]; exact zz_E.moved hW hE, by rw [hU]; exact hA, by rw [hU]; exact hP⟩
theorem zz_rc {a ci : Nat} {q : vw_C} {fs : List Value} (hK : va_K K.1 vwCl (zz_ty K) s) (h : zz_at K a (.inr (ci, fs)) H) (hc : vwCl[ci]? = some q) : ∃ cell : Cell, H[a]? = some cell ∧ cell.vm.isStatics = false ∧ s.vm.findClass q.1 = some cell.cls := by
  obtain ⟨q', h1, cell, g1, g2, g3, -⟩ := h
  exact ⟨cell, g1, by rw [g3]; rfl, by rw [g2]; exact (hK.1 ci q hc).2.1⟩
/-- behind a call of a method that throws nothing -/
theorem zz_after {g : JFrame} {a : Array Value} {Q : Option Value → Heap → Heap → Prop} (hg : g = F0 m pc ls st0) (hr : vx_Run p l e R s m args below meth c H locs cells slots mc ms g rest (zz_Qc Q B a) (zz_XC zz_nx) B) (hS : va_S A H0 H locs) (hB : ∀ q, B q → A q)
    (kk : ∀ (v : Option Value) (H1 : Heap) (locs1 : List Loc), Q v H H1 → zz_fr B H H1 → va_S A H0 H1 locs1 → W p l e R s m args below meth c H1 locs1 (cells + mc) (slots + ms) Qf (F0 m (pc + 3) ls (v.toList ++ rest))) : W p l e R s m args below meth c H locs cells slots Qf g := by
  subst hg
  intro T hT X
  rcases hr T hT X with ⟨v, st₀, t, T', L, h0, X', hL, e1, e2, ⟨v', hv, hq, hF⟩, st⟩ | ⟨q, st₀, t, T', L, E, ce, h0, X', hL, e1, e2, ⟨hx, -⟩, -⟩
  · cases hv
    rw [h0, ← e1] at hq hF
    obtain ⟨t2, a1, b1⟩ := kk v T'.heap (locs ++ L) hq hF
      ⟨Nat.le_trans hS.1 hF.1, fun q h1 h2 => (hF.2 q (Nat.lt_of_lt_of_le h1 hS.1) (fun z => h2 (hB q z))).trans (hS.2.1 q h1 h2), fun q hq => by
        rcases List.mem_append.mp hq with h | h
        · exact hS.2.2 q h
        · exact hB _ (hL q h)⟩ T' rfl X'
    exact ⟨t2, st t2 a1, b1⟩
  · exact hx.elim
/-- behind a call of a method that may throw, in a method without handlers that has written nothing -/
theorem zz_afterX {g : JFrame} {a : Array Value} {Q Qm : Option Value → Heap → Heap → Prop} {X Xm : String → Heap → Heap → Prop} {Bm : Nat → Prop} {mcm msm : Nat} (hg : g = F0 m pc ls st0) (hr : vx_Run p l e R s m args below meth c H locs cells slots mc ms g rest (zz_Qc Q B a) (zz_XC X) B) (hS : va_S zz_no s.heap H locs) (hB : ∀ q, B q → A q)
    (htab : ∀ x ∈ c.exceptionTable.toList, False) (hlocks : meth.locks = false) (hcm : cells + mc ≤ mcm) (hsm : slots + ms ≤ msm)
    (kx : ∀ (E : String) (H1 : Heap), X E H H1 → zz_fr zz_no s.heap H1 → Xm E s.heap H1)
    (kk : ∀ (v : Option Value) (H1 : Heap) (locs1 : List Loc), Q v H H1 → zz_fr B H H1 → va_S A s.heap H1 locs1 → W p l e R s m args below meth c H1 locs1 (cells + mc) (slots + ms) (vx_MQ below (zz_Qc Qm Bm) (zz_XC Xm) args s mcm msm Bm) (F0 m (pc + 3) ls (v.toList ++ rest))) (hBm : ∀ q, B q → Bm q) : W p l e R s m args below meth c H locs cells slots (vx_MQ below (zz_Qc Qm Bm) (zz_XC Xm) args s mcm msm Bm) g := by
  subst hg
  intro T hT X1
  rcases hr T hT X1 with ⟨v, st₀, t, T', L, h0, X', hL, e1, e2, ⟨v', hv, hq, hF⟩, st⟩ | ⟨q, st₀, t, T', L, E, ce, h0, X', hL, e1, e2, ⟨hx, hF⟩, hce, hcv, hcl, st⟩
  · cases hv
    rw [h0, ← e1] at hq hF
    obtain ⟨t2, a1, b1⟩ := kk v T'.heap (locs ++ L) hq hF
      ⟨Nat.le_trans hS.1 hF.1, fun q h1 h2 => (hF.2 q (Nat.lt_of_lt_of_le h1 hS.1) (fun z => h2 (hB q z))).trans (hS.2.1 q h1 (fun z => z)), fun q hq => by
        rcases List.mem_append.mp hq with h | h
        · exact (hS.2.2 q h).elim
        · exact hB _ (hL q h)⟩ T' rfl X'
    exact ⟨t2, st t2 a1, b1⟩
  · rw [h0, ← e1] at hx hF
    have hF2 : zz_fr zz_no s.heap T'.heap := ⟨Nat.le_trans hS.1 hF.1, fun q h1 h2 => (hF.2 q (Nat.lt_of_lt_of_le h1 hS.1) h2).trans (hS.2.1 q h1 h2)⟩
    obtain ⟨t2, a1, b1⟩ := vx_out (Qc := zz_Qc Qm Bm) (XC := zz_XC Xm) (rest := rest) (ls := ls) (pc := pc) (mc := mcm) (ms := msm) (free := Bm) (fun x hx => (htab x hx).elim) hlocks (by rw [e1]; exact hce) hcv hcl (fun t ht _ => ⟨by rw [ht]; exact kx E _ hx hF2, by rw [ht]; exact hF2⟩) (fun z hz => by
      rcases List.mem_append.mp hz with h | h
      · exact (hS.2.2 z h).elim
      · exact hBm _ (hL z h)) hcm hsm T' rfl X'
    exact ⟨t2, st.trans a1, b1⟩
section ZC
variable {own : String} {index nL ny : Nat} {y : MethodName} {cy : ByteArray} {ry : Option FieldType} {rm : Room} {b ci : Nat} {As : List Value} {P : Heap → Prop} {Q : Option Value → Heap → Heap → Prop} {X : String → Heap → Heap → Prop} {fs : List Value} {q0 : vw_C}
theorem zz_runV (hx : p.tables.exec = Jvm.exec) (hb : c.code = cc) (hml : c.maxLocals = nL) (hown : s.vm.findClass own = some m.cls) (hts : ∀ w ∈ zz_BW, w.before args s = true) (hM : zz_C l y cy ny ry rm K A (.ref b :: As) P Q X B)
    (hlink : Cond.methodLink own index y ∈ zz_BW) (hin : Cond.instanceMethod y ∈ zz_BW) (hsel : Cond.selects y.cls y y ∈ zz_BW) (hini : Cond.initialized y.cls ∈ zz_BW) (hcode : Cond.code y cy ny ry ∈ zz_BW)
    (hd : y.cls ≠ "java/lang/invoke/MethodHandle" ∧ y.cls ≠ "java/lang/invoke/VarHandle" ∧ (parseMethodDescriptor y.desc).map (fun d => d.parameters.length) = some As.length) (hR : rm.frames + 1 ≤ R.frames ∧ 8 + (ny + 11) + rm.locals ≤ R.locals)
    (hE : zz_E K A s H) (hA : ∀ q : Nat, H.size ≤ q → A q) (hrc : zz_at K b (.inr (ci, fs)) H) (hc : vwCl[ci]? = some q0) (hq0 : q0.1 = y.cls) (hP : P H) (hsize : ls.size = nL) (hW : (rest.map fun v => v.category).sum ≤ 8) (hdg : decode cc pc = .ok (.invokevirtual index, 3)) (hf : cells + rm.cells ≤ R.cells ∧ slots + rm.slots ≤ R.slots) :
    vx_Run p l e R s m args below meth c H locs cells slots rm.cells rm.slots (F0 m pc ls (As.reverse ++ .ref b :: rest)) rest (zz_Qc Q B (Value.ref b :: As).toArray) (zz_XC X) B :=
  vx_runV (cc := cc) (nL := nL) (own := own) (C := y.cls) ⟨hx, hb, hml, hown, hts⟩ hM ⟨zz_cb hts hlink hini hcode hd hR, hts _ hin, hts _ hsel⟩ ⟨zz_blind, hq0 ▸ zz_rc hE.K hrc hc, zz_pre hE hA hP⟩ rfl rfl hsize rfl (lv_room hW) hdg hf
theorem zz_runS (hx : p.tables.exec = Jvm.exec) (hb : c.code = cc) (hml : c.maxLocals = nL) (hown : s.vm.findClass own = some m.cls) (hts : ∀ w ∈ zz_BW, w.before args s = true) (hM : zz_C l y cy ny ry rm K A As P Q X B)
    (hlink : Cond.methodLink own index y ∈ zz_BW) (hst : Cond.static y ∈ zz_BW) (hini : Cond.initialized y.cls ∈ zz_BW) (hcode : Cond.code y cy ny ry ∈ zz_BW)
    (hd : y.cls ≠ "java/lang/invoke/MethodHandle" ∧ y.cls ≠ "java/lang/invoke/VarHandle" ∧ (parseMethodDescriptor y.desc).map (fun d => d.parameters.length) = some As.length) (hR : rm.frames + 1 ≤ R.frames ∧ 8 + (ny + 11) + rm.locals ≤ R.locals)
    (hE : zz_E K A s H) (hA : ∀ q : Nat, H.size ≤ q → A q) (hP : P H) (hsize : ls.size = nL) (hW : (rest.map fun v => v.category).sum ≤ 8) (hdg : decode cc pc = .ok (.invokestatic index, 3)) (hf : cells + rm.cells ≤ R.cells ∧ slots + rm.slots ≤ R.slots) :
    vx_Run p l e R s m args below meth c H locs cells slots rm.cells rm.slots (F0 m pc ls (As.reverse ++ rest)) rest (zz_Qc Q B As.toArray) (zz_XC X) B :=
  vx_runS (cc := cc) (nL := nL) (own := own) ⟨hx, hb, hml, hown, hts⟩ hM ⟨zz_cb hts hlink hini hcode hd hR, hts _ hst⟩ ⟨zz_blind, zz_pre hE hA hP⟩ rfl rfl hsize rfl (lv_room hW) hdg hf
theorem zz_runI (hx : p.tables.exec = Jvm.exec) (hb : c.code = cc) (hml : c.maxLocals = nL) (hown : s.vm.findClass own = some m.cls) (hts : ∀ w ∈ zz_BW, w.before args s = true) (hM : zz_C l y cy ny ry rm K A (.ref b :: As) P Q X B) (hry : ry = none) (hyn : y.name = "<init>")
    (hlink : Cond.methodLink own index y ∈ zz_BW) (hin : Cond.instanceMethod y ∈ zz_BW) (hini : Cond.initialized y.cls ∈ zz_BW) (hcode : Cond.code y cy ny ry ∈ zz_BW)
    (hd : y.cls ≠ "java/lang/invoke/MethodHandle" ∧ y.cls ≠ "java/lang/invoke/VarHandle" ∧ (parseMethodDescriptor y.desc).map (fun d => d.parameters.length) = some As.length) (hR : rm.frames + 1 ≤ R.frames ∧ 8 + (ny + 11) + rm.locals ≤ R.locals)
    (hE : zz_E K A s H) (hA : ∀ q : Nat, H.size ≤ q → A q) (hP : P H) (hsize : ls.size = nL) (hW : (rest.map fun v => v.category).sum ≤ 8) (hdg : decode cc pc = .ok (.invokespecial index, 3)) (hf : cells + rm.cells ≤ R.cells ∧ slots + rm.slots ≤ R.slots) :
    vx_Run p l e R s m args below meth c H locs cells slots rm.cells rm.slots (F0 m pc ls (As.reverse ++ .ref b :: rest)) rest (zz_Qc Q B (Value.ref b :: As).toArray) (zz_XC X) B := by
  subst hry
  exact vx_runI (cc := cc) (nL := nL) (own := own) ⟨hx, hb, hml, hown, hts⟩ hM ⟨zz_cb hts hlink hini hcode hd hR, hyn, hts _ hin⟩ ⟨zz_blind, zz_pre hE hA hP⟩ rfl rfl hsize rfl (lv_room hW) hdg hf
end ZC
end ZB
end
section
/-! own layer: rows over one cell of the heap, with what the others keep -/
section ZH
variable {p : Program} {l : Launch} {e : Env} {R : Room} {s : State} {m : MethodId} {args : Array Value} {below : List Frame} {meth : Method} {c : Code} {H : Heap} {locs : List Loc} {cells slots : Nat} {Q : State → Prop}
variable {cc : ByteArray} {pc : Nat} {ls : Array Slot} {rest : List Value} {K : zz_G} {A : Nat → Prop} {H0 : Heap} {a ci index N : Nat} {own ref C : String} {T : u_T} {fs : List Value} {v : Value}
theorem zz_one {e : va_E} (h : zz_at K a e H) : va_P K.1 vwCl [(a, e)] H := fun k q hq => by
  cases k with
  | zero => cases hq; exact h
  | succ k => simp at hq
theorem zz_get (hx : p.tables.exec = Jvm.exec) (hb : c.code = cc) (hts : ∀ w ∈ zz_BW, w.before args s = true) (hown : s.vm.findClass own = some m.cls) (hK : va_K K.1 vwCl (zz_ty K) s) (hat : zz_at K a (.inr (ci, fs)) H) (hc : vwCl[ci]? = some (C, T, N)) (hin : ∀ w ∈ u_ws C T N, w ∈ zz_BW) (k : Nat) (hk : k < N) (hlink : Cond.fieldLink own index ref (T k).2.1 (T k).2.2.1 ∈ zz_BW) (hsame : ∀ x, s.fieldFound? (T k).1 (T k).2.1 (T k).2.2.1 = some x → s.fieldFound? ref (T k).2.1 (T k).2.2.1 = some x) (hv : fs[k]? = some v) (hdg : decode cc pc = .ok (.getfield index, 3))
    (kk : W p l e R s m args below meth c H locs cells slots Q (F0 m (pc + 3) ls (v :: rest))) : W p l e R s m args below meth c H locs cells slots Q (F0 m pc ls (.ref a :: rest)) :=
  va_get hx hb hts hin hown hK (zz_one hat) 0 rfl hc k hk (hts _ hlink) hsame hv hdg kk
theorem zz_getN {host : String} (hx : p.tables.exec = Jvm.exec) (hb : c.code = cc) (hts : ∀ w ∈ zz_BW, w.before args s = true) (hN : ∀ w ∈ zz_ng, va_Nw w s) (hown : s.vm.findClass own = some m.cls) (hK : va_K K.1 vwCl (zz_ty K) s) (hat : zz_at K a (.inr (ci, fs)) H) (hc : vwCl[ci]? = some (C, T, N)) (hin : ∀ w ∈ u_ws C T N, w ∈ zz_BW) (k : Nat) (hk : k < N) (hlink : Cond.fieldLinkNest own index ref (T k).2.1 (T k).2.2.1 host ∈ zz_ng) (hsame : ∀ x, s.fieldFound? (T k).1 (T k).2.1 (T k).2.2.1 = some x → s.fieldFound? ref (T k).2.1 (T k).2.2.1 = some x) (hv : fs[k]? = some v) (hdg : decode cc pc = .ok (.getfield index, 3))
    (kk : W p l e R s m args below meth c H locs cells slots Q (F0 m (pc + 3) ls (v :: rest))) : W p l e R s m args below meth c H locs cells slots Q (F0 m pc ls (.ref a :: rest)) :=
  va_getN hx hb hts hin hown hK (zz_one hat) 0 rfl hc k hk (va_Nw.use rfl (hN _ hlink)) hsame hv hdg kk
theorem zz_put {ty : Nat → FieldType} {ty1 : FieldType} (hx : p.tables.exec = Jvm.exec) (hb : c.code = cc) (hts : ∀ w ∈ zz_BW, w.before args s = true) (hown : s.vm.findClass own = some m.cls) (hK : va_K K.1 vwCl (zz_ty K) s) (hS : va_S A H0 H locs) (hat : zz_at K a (.inr (ci, fs)) H) (haA : A a) (hc : vwCl[ci]? = some (C, T, N)) (hin : ∀ w ∈ u_ws C T N, w ∈ zz_BW) (hty : ∀ k, k < N → parseFieldDescriptor (T k).2.2.1 = some (ty k)) (hnm : ∀ a, a < N → ∀ b, b < N → a ≠ b → (T a).2.1 ≠ (T b).2.1) (k : Nat) (hk : k < N) (hlink : Cond.fieldLink own index ref (T k).2.1 (T k).2.2.1 ∈ zz_BW) (hsame : ∀ x, s.fieldFound? (T k).1 (T k).2.1 (T k).2.2.1 = some x → s.fieldFound? ref (T k).2.1 (T k).2.2.1 = some x) (hfin : (T k).2.2.2 = false) (hd : parseFieldDescriptor (T k).2.2.1 = some ty1) (hn : narrow ty1 v = v) (hfit : fits ty1 v = true) (hl : k < fs.length) (hdg : decode cc pc = .ok (.putfield index, 3))
    (kk : ∀ (H1 : Heap) (locs1 : List Loc), zz_at K a (.inr (ci, fs.set k v)) H1 → H1.size = H.size → (∀ q : Nat, q ≠ a → H1[q]? = H[q]?) → va_S A H0 H1 locs1 → W p l e R s m args below meth c H1 locs1 cells slots Q (F0 m (pc + 3) ls rest)) : W p l e R s m args below meth c H locs cells slots Q (F0 m pc ls (v :: .ref a :: rest)) := by
  have hap := va_apart (own := own) hts hin ty hty hnm hK hc
  obtain ⟨r, h1, cell, q1, q2, q3, q4⟩ := hat
  have hr : r = (C, T, N) := Option.some.inj (h1.symm.trans hc)
  subst hr
  obtain ⟨hS1, hfc, kC, hkC, hkind⟩ := hK.1 ci _ hc
  obtain ⟨cf, kf, fi, f, hi, hsl⟩ := hS1 k hk
  have hlay := hts _ (hin _ (u_in_lay hk))
  unfold u_lay at hlay
  rw [if_neg (by rw [hfin]; decide)] at hlay
  have hst := (u_facts hfc hkC (u_lays hts hin hk) hi).1
  have h6 := u_store hfc hkC hkind hlay hi hd hn hfit
  refine W.putK hx hb (f := f) ⟨hown, hts _ hlink, ⟨_, _, _, hsame _ hi⟩, hst⟩ (by rw [q2]; exact h6) q1 q3 (by rw [hsl]; exact k2_hasslot (q4 k hk)) rfl rfl hdg fun H' e1 e2 e3 => ?_
  rw [hsl] at e1 ⊢
  exact kk H' _ ⟨_, hc, t_OB.to (V := updV (vp_V fs) k v) ⟨_, e1, q2, q3, t_set q4 hap hk v⟩ (fun j _ => vp_updV_set hl v j)⟩ e2 e3 (hS.put e2 e3 haA)
theorem zz_putF {ty : Nat → FieldType} {ty1 : FieldType} (hx : p.tables.exec = Jvm.exec) (hb : c.code = cc) (hts : ∀ w ∈ zz_BW, w.before args s = true) (hown : s.vm.findClass own = some m.cls) (hK : va_K K.1 vwCl (zz_ty K) s) (hS : va_S A H0 H locs) (hat : zz_at K a (.inr (ci, fs)) H) (haA : A a) (hc : vwCl[ci]? = some (C, T, N)) (hin : ∀ w ∈ u_ws C T N, w ∈ zz_BW) (hty : ∀ k, k < N → parseFieldDescriptor (T k).2.2.1 = some (ty k)) (hnm : ∀ a, a < N → ∀ b, b < N → a ≠ b → (T a).2.1 ≠ (T b).2.1) (k : Nat) (hk : k < N) (hlink : Cond.fieldLink own index ref (T k).2.1 (T k).2.2.1 ∈ zz_BW) (hsame : ∀ x, s.fieldFound? (T k).1 (T k).2.1 (T k).2.2.1 = some x → s.fieldFound? ref (T k).2.1 (T k).2.2.1 = some x) (hfin : (T k).2.2.2 = true) (hin2 : meth.name = "<init>") (hdecl : (T k).1 = own) (hd : parseFieldDescriptor (T k).2.2.1 = some ty1) (hn : narrow ty1 v = v) (hfit : fits ty1 v = true) (hl : k < fs.length) (hdg : decode cc pc = .ok (.putfield index, 3))
    (kk : ∀ (H1 : Heap) (locs1 : List Loc), zz_at K a (.inr (ci, fs.set k v)) H1 → H1.size = H.size → (∀ q : Nat, q ≠ a → H1[q]? = H[q]?) → va_S A H0 H1 locs1 → W p l e R s m args below meth c H1 locs1 cells slots Q (F0 m (pc + 3) ls rest)) : W p l e R s m args below meth c H locs cells slots Q (F0 m pc ls (v :: .ref a :: rest)) := by
  have hap := va_apart (own := own) hts hin ty hty hnm hK hc
  obtain ⟨r, h1, cell, q1, q2, q3, q4⟩ := hat
  have hr : r = (C, T, N) := Option.some.inj (h1.symm.trans hc)
  subst hr
  obtain ⟨hS1, hfc, kC, hkC, hkind⟩ := hK.1 ci _ hc
  obtain ⟨cf, kf, fi, f, hi, hsl⟩ := hS1 k hk
  have hlay := hts _ (hin _ (u_in_lay hk))
  unfold u_lay at hlay
  rw [if_pos hfin] at hlay
  have hst := (u_facts hfc hkC (u_lays hts hin hk) hi).1
  have hcf : m.cls = cf := by
    obtain ⟨_, _, c', _, _, _, -, -, hf', -, -, -, hown2, -⟩ := Cond.laysFinal_spec hlay
    have e1 : c' = cf := by have := hi.symm.trans hf'; simp at this; exact this.1.symm
    rw [hdecl] at hown2
    rw [← e1]; exact Option.some.inj (hown.symm.trans hown2)
  have h6 := u_fits hfc hkC hkind (Or.inr hlay) hi hd hn hfit
  refine W.putFinK hx hb hown (hts _ hlink) (hsame _ hi) hst hcf hin2 (by rw [q2]; exact h6) q1 q3 (by rw [hsl]; exact k2_hasslot (q4 k hk)) rfl rfl hdg fun H' e1 e2 e3 => ?_
  rw [hsl] at e1 ⊢
  exact kk H' _ ⟨_, hc, t_OB.to (V := updV (vp_V fs) k v) ⟨_, e1, q2, q3, t_set q4 hap hk v⟩ (fun j _ => vp_updV_set hl v j)⟩ e2 e3 (hS.put e2 e3 haA)
theorem zz_putN {host : String} {ty : Nat → FieldType} {ty1 : FieldType} (hx : p.tables.exec = Jvm.exec) (hb : c.code = cc) (hts : ∀ w ∈ zz_BW, w.before args s = true) (hN : ∀ w ∈ zz_ng, va_Nw w s) (hown : s.vm.findClass own = some m.cls) (hK : va_K K.1 vwCl (zz_ty K) s) (hS : va_S A H0 H locs) (hat : zz_at K a (.inr (ci, fs)) H) (haA : A a) (hc : vwCl[ci]? = some (C, T, N)) (hin : ∀ w ∈ u_ws C T N, w ∈ zz_BW) (hty : ∀ k, k < N → parseFieldDescriptor (T k).2.2.1 = some (ty k)) (hnm : ∀ a, a < N → ∀ b, b < N → a ≠ b → (T a).2.1 ≠ (T b).2.1) (k : Nat) (hk : k < N) (hlink : Cond.fieldLinkNest own index ref (T k).2.1 (T k).2.2.1 host ∈ zz_ng) (hsame : ∀ x, s.fieldFound? (T k).1 (T k).2.1 (T k).2.2.1 = some x → s.fieldFound? ref (T k).2.1 (T k).2.2.1 = some x) (hfin : (T k).2.2.2 = false) (hd : parseFieldDescriptor (T k).2.2.1 = some ty1) (hn : narrow ty1 v = v) (hfit : fits ty1 v = true) (hl : k < fs.length) (hdg : decode cc pc = .ok (.putfield index, 3))
    (kk : ∀ (H1 : Heap) (locs1 : List Loc), zz_at K a (.inr (ci, fs.set k v)) H1 → H1.size = H.size → (∀ q : Nat, q ≠ a → H1[q]? = H[q]?) → va_S A H0 H1 locs1 → W p l e R s m args below meth c H1 locs1 cells slots Q (F0 m (pc + 3) ls rest)) : W p l e R s m args below meth c H locs cells slots Q (F0 m pc ls (v :: .ref a :: rest)) := by
  have hap := va_apart (own := own) hts hin ty hty hnm hK hc
  obtain ⟨r, h1, cell, q1, q2, q3, q4⟩ := hat
  have hr : r = (C, T, N) := Option.some.inj (h1.symm.trans hc)
  subst hr
  obtain ⟨hS1, hfc, kC, hkC, hkind⟩ := hK.1 ci _ hc
  obtain ⟨cf, kf, fi, f, hi, hsl⟩ := hS1 k hk
  have hlay := hts _ (hin _ (u_in_lay hk))
  unfold u_lay at hlay
  rw [if_neg (by rw [hfin]; decide)] at hlay
  have hst := (u_facts hfc hkC (u_lays hts hin hk) hi).1
  have h6 := u_store hfc hkC hkind hlay hi hd hn hfit
  refine va_WputK hx hb (f := f) hown (va_Nw.use rfl (hN _ hlink)) (hsame _ hi) hst (by rw [q2]; exact h6) q1 q3 (by rw [hsl]; exact k2_hasslot (q4 k hk)) rfl rfl hdg fun H' e1 e2 e3 => ?_
  rw [hsl] at e1 ⊢
  exact kk H' _ ⟨_, hc, t_OB.to (V := updV (vp_V fs) k v) ⟨_, e1, q2, q3, t_set q4 hap hk v⟩ (fun j _ => vp_updV_set hl v j)⟩ e2 e3 (hS.put e2 e3 haA)
/-! arrays -/
variable {n : Nat} {i x : Int32} {f : Nat → Int32} {g : Nat → Option Nat}
theorem zz_iald (hx : p.tables.exec = Jvm.exec) (hb : c.code = cc) (hK : va_K K.1 vwCl (zz_ty K) s) (hat : zz_at K a (.inl (K.2.1 0, n, .inl f)) H) (hin : vp_in i n) (hdg : decode cc pc = .ok (.iaload, 1)) {y : Int32} (hy : f i.toNatClampNeg = y)
    (kk : W p l e R s m args below meth c H locs cells slots Q (F0 m (pc + 1) ls (.int y :: rest))) : W p l e R s m args below meth c H locs cells slots Q (F0 m pc ls (.int i :: .ref a :: rest)) :=
  va_iald hx hb hK (zz_one hat) 0 0 rfl rfl hin hdg (by rw [hy]; exact kk)
theorem zz_zald (hx : p.tables.exec = Jvm.exec) (hb : c.code = cc) (hK : va_K K.1 vwCl (zz_ty K) s) (hat : zz_at K a (.inl (K.2.1 1, n, .inl f)) H) (hin : vp_in i n) (hdg : decode cc pc = .ok (.baload, 1)) {y : Int32} (hy : f i.toNatClampNeg = y)
    (kk : W p l e R s m args below meth c H locs cells slots Q (F0 m (pc + 1) ls (.int y :: rest))) : W p l e R s m args below meth c H locs cells slots Q (F0 m pc ls (.int i :: .ref a :: rest)) :=
  va_zald hx hb hK (zz_one hat) 0 1 rfl rfl hin hdg (by rw [hy]; exact kk)
theorem zz_aald (hx : p.tables.exec = Jvm.exec) (hb : c.code = cc) (hK : va_K K.1 vwCl (zz_ty K) s) (hat : zz_at K a (.inl (K.2.1 2, n, .inr (.inr (.inr (.inr g))))) H) (hin : vp_in i n) (hdg : decode cc pc = .ok (.aaload, 1)) {y : Option Nat} (hy : g i.toNatClampNeg = y)
    (kk : W p l e R s m args below meth c H locs cells slots Q (F0 m (pc + 1) ls (va_rf y :: rest))) : W p l e R s m args below meth c H locs cells slots Q (F0 m pc ls (.int i :: .ref a :: rest)) :=
  va_aldq hx hb hK (zz_one hat) 0 2 rfl rfl hin hdg (by rw [hy]; exact kk)
theorem zz_lald {f : Nat → Int64} (hx : p.tables.exec = Jvm.exec) (hb : c.code = cc) (hK : va_K K.1 vwCl (zz_ty K) s) (hat : zz_at K a (.inl (K.2.1 3, n, .inr (.inl f))) H) (hin : vp_in i n) (hdg : decode cc pc = .ok (.laload, 1)) {y : Int64} (hy : f i.toNatClampNeg = y)
    (kk : W p l e R s m args below meth c H locs cells slots Q (F0 m (pc + 1) ls (.long y :: rest))) : W p l e R s m args below meth c H locs cells slots Q (F0 m pc ls (.int i :: .ref a :: rest)) :=
  va_lald hx hb hK (zz_one hat) 0 3 rfl rfl hin hdg (by rw [hy]; exact kk)
theorem zz_dald {f : Nat → UInt64} (hx : p.tables.exec = Jvm.exec) (hb : c.code = cc) (hK : va_K K.1 vwCl (zz_ty K) s) (hat : zz_at K a (.inl (K.2.1 4, n, .inr (.inr (.inr (.inl f))))) H) (hin : vp_in i n) (hdg : decode cc pc = .ok (.daload, 1)) {y : UInt64} (hy : f i.toNatClampNeg = y)
    (kk : W p l e R s m args below meth c H locs cells slots Q (F0 m (pc + 1) ls (.double y :: rest))) : W p l e R s m args below meth c H locs cells slots Q (F0 m pc ls (.int i :: .ref a :: rest)) :=
  va_dald hx hb hK (zz_one hat) 0 4 rfl rfl hin hdg (by rw [hy]; exact kk)
theorem zz_alen {u : vp_A} {cA : ClassId} {ty : FieldType} (t0 : Nat) (hx : p.tables.exec = Jvm.exec) (hb : c.code = cc) (hK : va_K K.1 vwCl (zz_ty K) s) (hat : zz_at K a (.inl (cA, u)) H) (ht : (zz_ty K)[t0]? = some (cA, ty)) (hdg : decode cc pc = .ok (.arraylength, 1))
    (kk : W p l e R s m args below meth c H locs cells slots Q (F0 m (pc + 1) ls (.int (nI u.1) :: rest))) : W p l e R s m args below meth c H locs cells slots Q (F0 m pc ls (.ref a :: rest)) :=
  va_alen hx hb hK (zz_one hat) 0 t0 rfl ht rfl hdg kk
theorem zz_iast (hx : p.tables.exec = Jvm.exec) (hb : c.code = cc) (hK : va_K K.1 vwCl (zz_ty K) s) (hS : va_S A H0 H locs) (hat : zz_at K a (.inl (K.2.1 0, n, .inl f)) H) (haA : A a) (hin : vp_in i n) (hdg : decode cc pc = .ok (.iastore, 1))
    (kk : ∀ (H1 : Heap) (locs1 : List Loc), zz_at K a (.inl (K.2.1 0, n, .inl (upd f i.toNatClampNeg x))) H1 → H1.size = H.size → (∀ q : Nat, q ≠ a → H1[q]? = H[q]?) → va_S A H0 H1 locs1 → W p l e R s m args below meth c H1 locs1 cells slots Q (F0 m (pc + 1) ls rest)) : W p l e R s m args below meth c H locs cells slots Q (F0 m pc ls (.int x :: .int i :: .ref a :: rest)) := by
  refine W.iast hx hb hat ((hK.2 0 _ rfl).1 n (fun j => .int (f j))) (fun q => by cases q) (by show ¬ (i < 0 ∨ (arrV _ _ _).slots.size ≤ _); rw [arrV_size]; exact hin) rfl rfl hdg fun H1 e z oq => ?_
  refine kk H1 _ ?_ z oq (hS.put z oq haA)
  show H1[a]? = some (vp_cell _ _)
  rw [e, vp_cell_i, vp_cell_i, arrV_store]
  congr 2
  funext q
  by_cases hq : q = i.toNatClampNeg
  · subst hq
    simp [updV, upd]
  · simp [updV, upd, hq]
theorem zz_zast (hx : p.tables.exec = Jvm.exec) (hb : c.code = cc) (hK : va_K K.1 vwCl (zz_ty K) s) (hS : va_S A H0 H locs) (hat : zz_at K a (.inl (K.2.1 1, n, .inl f)) H) (haA : A a) (hin : vp_in i n) (hx01 : x = 0 ∨ x = 1) (hdg : decode cc pc = .ok (.bastore, 1))
    (kk : ∀ (H1 : Heap) (locs1 : List Loc), zz_at K a (.inl (K.2.1 1, n, .inl (upd f i.toNatClampNeg x))) H1 → H1.size = H.size → (∀ q : Nat, q ≠ a → H1[q]? = H[q]?) → va_S A H0 H1 locs1 → W p l e R s m args below meth c H1 locs1 cells slots Q (F0 m (pc + 1) ls rest)) : W p l e R s m args below meth c H locs cells slots Q (F0 m pc ls (.int x :: .int i :: .ref a :: rest)) := by
  refine W.zast hx hb hat ((hK.2 1 _ rfl).1 n (fun j => .int (f j))) (fun q => by cases q) (by show ¬ (i < 0 ∨ (arrV _ _ _).slots.size ≤ _); rw [arrV_size]; exact hin) rfl rfl hdg fun H1 e z oq => ?_
  refine kk H1 _ ?_ z oq (hS.put z oq haA)
  have hn : narrow .boolean (.int x) = .int x := by rcases hx01 with rfl | rfl <;> rfl
  show H1[a]? = some (vp_cell _ _)
  rw [e, vp_cell_i, vp_cell_i, arrV_store]
  congr 2
  funext q
  by_cases hq : q = i.toNatClampNeg
  · subst hq
    simp [updV, upd, hn]
  · simp [updV, upd, hq]
theorem zz_last {f : Nat → Int64} {x : Int64} (hx : p.tables.exec = Jvm.exec) (hb : c.code = cc) (hK : va_K K.1 vwCl (zz_ty K) s) (hS : va_S A H0 H locs) (hat : zz_at K a (.inl (K.2.1 3, n, .inr (.inl f))) H) (haA : A a) (hin : vp_in i n) (hdg : decode cc pc = .ok (.lastore, 1))
    (kk : ∀ (H1 : Heap) (locs1 : List Loc), zz_at K a (.inl (K.2.1 3, n, .inr (.inl (vp_updL f i.toNatClampNeg x)))) H1 → H1.size = H.size → (∀ q : Nat, q ≠ a → H1[q]? = H[q]?) → va_S A H0 H1 locs1 → W p l e R s m args below meth c H1 locs1 cells slots Q (F0 m (pc + 1) ls rest)) : W p l e R s m args below meth c H locs cells slots Q (F0 m pc ls (.long x :: .int i :: .ref a :: rest)) := by
  refine W.last hx hb hat ((hK.2 3 _ rfl).1 n (fun j => .long (f j))) (fun q => by cases q) (by show ¬ (i < 0 ∨ (arrV _ _ _).slots.size ≤ _); rw [arrV_size]; exact hin) rfl rfl hdg fun H1 e z oq => ?_
  refine kk H1 _ ?_ z oq (hS.put z oq haA)
  show H1[a]? = some (vp_cell _ _)
  rw [e, vp_cell_l, vp_cell_l, arrV_store]
  congr 2
  funext q
  by_cases hq : q = i.toNatClampNeg
  · subst hq
    simp [updV, vp_updL]
  · simp [updV, vp_updL, hq]
theorem zz_dast {f : Nat → UInt64} {x : UInt64} (hx : p.tables.exec = Jvm.exec) (hb : c.code = cc) (hK : va_K K.1 vwCl (zz_ty K) s) (hS : va_S A H0 H locs) (hat : zz_at K a (.inl (K.2.1 4, n, .inr (.inr (.inr (.inl f))))) H) (haA : A a) (hin : vp_in i n) (hdg : decode cc pc = .ok (.dastore, 1))
    (kk : ∀ (H1 : Heap) (locs1 : List Loc), zz_at K a (.inl (K.2.1 4, n, .inr (.inr (.inr (.inl (vf_upd f i.toNatClampNeg x)))))) H1 → H1.size = H.size → (∀ q : Nat, q ≠ a → H1[q]? = H[q]?) → va_S A H0 H1 locs1 → W p l e R s m args below meth c H1 locs1 cells slots Q (F0 m (pc + 1) ls rest)) : W p l e R s m args below meth c H locs cells slots Q (F0 m pc ls (.double x :: .int i :: .ref a :: rest)) := by
  refine W.dast hx hb hat ((hK.2 4 _ rfl).1 n (fun j => .double (f j))) (fun q => by cases q) (by show ¬ (i < 0 ∨ (arrV _ _ _).slots.size ≤ _); rw [arrV_size]; exact hin) rfl rfl hdg fun H1 e z oq => ?_
  refine kk H1 _ ?_ z oq (hS.put z oq haA)
  show H1[a]? = some (vp_cell _ _)
  rw [e, vp_cell_d, vp_cell_d, arrV_store]
  congr 2
  funext q
  by_cases hq : q = i.toNatClampNeg
  · subst hq
    simp [updV, vf_upd]
  · simp [updV, vf_upd, hq]
/-! making -/
theorem zz_new {ty : Nat → FieldType} (hx : p.tables.exec = Jvm.exec) (hb : c.code = cc) (hts : ∀ w ∈ zz_BW, w.before args s = true) (hown : s.vm.findClass own = some m.cls) (hK : va_K K.1 vwCl (zz_ty K) s) (hS : va_S A H0 H locs) (hc : vwCl[ci]? = some (C, T, N)) (hin : ∀ w ∈ u_ws C T N, w ∈ zz_BW) (hty : ∀ k, k < N → parseFieldDescriptor (T k).2.2.1 = some (ty k)) (hcl : Cond.classLink own index C ∈ zz_BW) (hinst : Cond.instantiable C N ∈ zz_BW) (hini : Cond.initialized C ∈ zz_BW) (hfs : ∀ j, j < N → defaultValue (ty j) = vp_V fs j) (hcells : cells + 1 ≤ R.cells) (hslots : slots + N ≤ R.slots) (hdg : decode cc pc = .ok (.new index, 3))
    (kk : ∀ (H1 : Heap), zz_at K H.size (.inr (ci, fs)) H1 → H1.size = H.size + 1 → (∀ q : Nat, q < H.size → H1[q]? = H[q]?) → va_S A H0 H1 locs → W p l e R s m args below meth c H1 locs (cells + 1) (slots + N) Q (F0 m (pc + 3) ls (.ref H.size :: rest))) : W p l e R s m args below meth c H locs cells slots Q (F0 m pc ls rest) := by
  have hKn := hK.1 ci _ hc
  refine W.newcK hx hb hown (hts _ hcl) (hts _ hinst) (hts _ hini) rfl hdg hcells hslots hKn.2.1 rfl fun H1 kC hkC e1 z1 o1 => ?_
  exact kk H1 ⟨_, hc, (u_born ty hts hin hKn hkC e1 hty).to hfs⟩ z1 o1 ⟨Nat.le_trans hS.1 (by omega), fun x h1 h2 => (o1 x (Nat.lt_of_lt_of_le h1 hS.1)).trans (hS.2.1 x h1 h2), hS.2.2⟩
theorem zz_newa {N' : Nat} {n : Int32} {a0 : vp_A} {atype : ArrayType} {ty : FieldType} {cA : ClassId} (t0 : Nat) (hx : p.tables.exec = Jvm.exec) (hb : c.code = cc) (hts : ∀ w ∈ zz_BW, w.before args s = true) (hK : va_K K.1 vwCl (zz_ty K) s) (hS : va_S A H0 H locs) (harr : Cond.arrayClass (newarray.typeOf atype) ∈ zz_BW) (hty : newarray.typeOf atype = ty) (ht : (zz_ty K)[t0]? = some (cA, ty)) (hnr : ∀ C, ty ≠ .object C) (ha : ∀ cA : ClassId, vp_cell cA a0 = arrV cA N' (fun _ => defaultValue ty)) (hn : ¬ n < 0) (hN : n.toNatClampNeg = N') (hbytes : N' * componentBytes ty ≤ 536870912) (hcells : cells + 1 ≤ R.cells) (hslots : slots + N' ≤ R.slots) (hdg : decode cc pc = .ok (.newarray atype, 2))
    (kk : ∀ (H1 : Heap), zz_at K H.size (.inl (cA, a0)) H1 → H1.size = H.size + 1 → (∀ q : Nat, q < H.size → H1[q]? = H[q]?) → va_S A H0 H1 locs → W p l e R s m args below meth c H1 locs (cells + 1) (slots + N') Q (F0 m (pc + 2) ls (.ref H.size :: rest))) : W p l e R s m args below meth c H locs cells slots Q (F0 m pc ls (.int n :: rest)) := by
  subst hty
  refine va_newaK hx hb (hts _ harr) rfl hdg rfl hn hN hbytes hcells hslots rfl fun H1 cB e1 z1 o1 hAr hNm => ?_
  have hR := (hK.2 t0 _ ht).2
  have hcB : cB = cA := by
    have h2 : s.vm.findClass ("[" ++ (newarray.typeOf atype).toString) = some cA := by
      cases hq : newarray.typeOf atype <;> first | exact absurd hq (hnr _) | (rw [hq] at hR; exact hR)
    exact Option.some.inj (hNm.symm.trans h2)
  subst hcB
  refine kk H1 ?_ z1 o1 ⟨Nat.le_trans hS.1 (by omega), fun x h1 h2 => (o1 x (Nat.lt_of_lt_of_le h1 hS.1)).trans (hS.2.1 x h1 h2), hS.2.2⟩
  show H1[H.size]? = some (vp_cell _ _)
  rw [ha]
  exact e1
end ZH
end
section
/-! the worlds: cells by labels (kind, index); one abstract state for the class and for the reference:
 N 0: floors, people, bookings; N 12: day, no-shows; by floor N 1 seats, 2 cost, 3 open; by person 4 team, 5 standing, 6 seat (0 none, else floor + 1), 7 in, 8 came, 11 wanted (0 none, else floor + 1); by booking 9 person, 10 floor. G 0 warmth, G 1 air. L 0 energy, 1 discomfort, 2 cleaning -/
def zu (N : Nat → Nat → Nat) (k i v : Nat) : Nat → Nat → Nat := fun k' i' => if k' = k then (if i' = i then v else N k i') else N k' i'
def zg (G : Nat → Nat → Int32) (k i : Nat) (v : Int32) : Nat → Nat → Int32 := fun k' i' => if k' = k then (if i' = i then v else G k i') else G k' i'
def zl (L : Nat → Int64) (k : Nat) (v : Int64) : Nat → Int64 := fun k' => if k' = k then v else L k'
theorem zu_s (N : Nat → Nat → Nat) (k i v : Nat) : zu N k i v k i = v := by simp [zu]
theorem zu_k {N : Nat → Nat → Nat} {k i v k' i' : Nat} (h : k' ≠ k) : zu N k i v k' i' = N k' i' := by simp [zu, h]
theorem zu_i {N : Nat → Nat → Nat} {k i v i' : Nat} (h : i' ≠ i) : zu N k i v k i' = N k i' := by simp [zu, h]
theorem zu_n {N : Nat → Nat → Nat} {k i v k' i' : Nat} (h : ¬ (k' = k ∧ i' = i)) : zu N k i v k' i' = N k' i' := by
  unfold zu
  by_cases h1 : k' = k
  · subst h1
    rw [if_pos rfl, if_neg (fun e => h ⟨rfl, e⟩)]
  · rw [if_neg h1]
theorem zg_s (N : Nat → Nat → Int32) (k i : Nat) (v : Int32) : zg N k i v k i = v := by simp [zg]
theorem zg_n {N : Nat → Nat → Int32} {k i k' i' : Nat} {v : Int32} (h : ¬ (k' = k ∧ i' = i)) : zg N k i v k' i' = N k' i' := by
  unfold zg
  by_cases h1 : k' = k
  · subst h1
    rw [if_pos rfl, if_neg (fun e => h ⟨rfl, e⟩)]
  · rw [if_neg h1]
def zz_ro (ad : Nat → Nat) : Nat → Option Nat
  | 0 => none
  | j + 1 => some (ad j)
abbrev zz_rf (ad : Nat → Nat) (x : Nat) : Value := va_rf (zz_ro ad x)
def zz_W (K : zz_G) (A : Nat → Prop) (ad : Nat → Nat → Nat) (w : Nat → Nat → Option va_E) (H : Heap) : Prop :=
  (∀ (k i : Nat) (e : va_E), w k i = some e → zz_at K (ad k i) e H ∧ A (ad k i)) ∧ ∀ (k i : Nat) (e : va_E) (k' i' : Nat) (e' : va_E), w k i = some e → w k' i' = some e' → ad k i = ad k' i' → k = k' ∧ i = i'
theorem zz_W.fr {K : zz_G} {A B : Nat → Prop} {ad : Nat → Nat → Nat} {w : Nat → Nat → Option va_E} {H H1 : Heap} (h : zz_W K A ad w H) (g : zz_fr B H H1) (hAB : ∀ q, A q → q < H.size → ¬ B q) : zz_W K A ad w H1 :=
  ⟨fun k i e he => ⟨va_at.kept (h.1 k i e he).1 (g.2 _ (va_at.lt (h.1 k i e he).1) (hAB _ (h.1 k i e he).2 (va_at.lt (h.1 k i e he).1))), (h.1 k i e he).2⟩, h.2⟩
theorem zz_W.ro {K : zz_G} {A : Nat → Prop} {ad : Nat → Nat → Nat} {w : Nat → Nat → Option va_E} {H H1 : Heap} (h : zz_W K A ad w H) (g : zz_fr zz_no H H1) : zz_W K A ad w H1 := h.fr g (fun _ _ _ z => z)
theorem zz_W.put {K : zz_G} {A : Nat → Prop} {ad : Nat → Nat → Nat} {w w' : Nat → Nat → Option va_E} {H H1 : Heap} (h : zz_W K A ad w H) (k i : Nat) {e0 e1 : va_E} (h0 : w k i = some e0) (h1 : w' k i = some e1) (hat : zz_at K (ad k i) e1 H1) (ho : ∀ q : Nat, q ≠ ad k i → H1[q]? = H[q]?) (hw : ∀ k' i', ¬ (k' = k ∧ i' = i) → w' k' i' = w k' i') : zz_W K A ad w' H1 := by
  have key : ∀ (k' i' : Nat) (e : va_E), w' k' i' = some e → ∃ e', w k' i' = some e' := by
    intro k' i' e he
    by_cases hh : k' = k ∧ i' = i
    · obtain ⟨rfl, rfl⟩ := hh
      exact ⟨e0, h0⟩
    · exact ⟨e, by rw [← hw k' i' hh]; exact he⟩
  refine ⟨fun k' i' e he => ?_, fun k1 i1 e k2 i2 e' hb hc hd => ?_⟩
  · by_cases hh : k' = k ∧ i' = i
    · obtain ⟨rfl, rfl⟩ := hh
      cases Option.some.inj (h1.symm.trans he)
      exact ⟨hat, (h.1 _ _ _ h0).2⟩
    · rw [hw k' i' hh] at he
      obtain ⟨g1, g2⟩ := h.1 k' i' e he
      exact ⟨va_at.kept g1 (ho _ (fun z => hh (h.2 _ _ _ _ _ _ he h0 z))), g2⟩
  · obtain ⟨x1, g1⟩ := key _ _ _ hb
    obtain ⟨x2, g2⟩ := key _ _ _ hc
    exact h.2 _ _ _ _ _ _ g1 g2 hd
/-- the heap as a method of one world sees it -/
def zz_Z (K : zz_G) (A : Nat → Prop) (s : State) (ad : Nat → Nat → Nat) (w : Nat → Nat → Option va_E) (H : Heap) : Prop := zz_E K A s H ∧ (∀ q : Nat, H.size ≤ q → A q) ∧ zz_W K A ad w H
theorem zz_Z.ro {K : zz_G} {A : Nat → Prop} {s : State} {ad : Nat → Nat → Nat} {w : Nat → Nat → Option va_E} {H H1 : Heap} (h : zz_Z K A s ad w H) (g : zz_fr zz_no H H1) : zz_Z K A s ad w H1 :=
  ⟨h.1.kept (fun a ha _ => g.2 a ha (fun z => z)), fun q hq => h.2.1 q (Nat.le_trans g.1 hq), h.2.2.ro g⟩
theorem zz_Z.mut {K : zz_G} {A : Nat → Prop} {s : State} {ad ad' : Nat → Nat → Nat} {w w' : Nat → Nat → Option va_E} {H H1 : Heap} (h : zz_Z K A s ad w H) (g : zz_fr A H H1) (hw : zz_W K A ad' w' H1) : zz_Z K A s ad' w' H1 :=
  ⟨h.1.kept (fun a ha hn => g.2 a ha hn), fun q hq => h.2.1 q (Nat.le_trans g.1 hq), hw⟩
theorem zz_Z.put {K : zz_G} {A : Nat → Prop} {s : State} {ad : Nat → Nat → Nat} {w w' : Nat → Nat → Option va_E} {H H1 : Heap} (h : zz_Z K A s ad w H) {a : Nat} (haA : A a) (hz : H1.size = H.size) (ho : ∀ q : Nat, q ≠ a → H1[q]? = H[q]?) (hw : zz_W K A ad w' H1) : zz_Z K A s ad w' H1 :=
  h.mut ⟨by omega, fun q _ h2 => ho q (fun e => h2 (by rw [e]; exact haA))⟩ hw
theorem zz_Z.E {K : zz_G} {A : Nat → Prop} {s : State} {ad : Nat → Nat → Nat} {w : Nat → Nat → Option va_E} {H : Heap} (h : zz_Z K A s ad w H) : zz_E K A s H := h.1
theorem zz_Z.A {K : zz_G} {A : Nat → Prop} {s : State} {ad : Nat → Nat → Nat} {w : Nat → Nat → Option va_E} {H : Heap} (h : zz_Z K A s ad w H) : ∀ q : Nat, H.size ≤ q → A q := h.2.1
theorem zz_Z.W {K : zz_G} {A : Nat → Prop} {s : State} {ad : Nat → Nat → Nat} {w : Nat → Nat → Option va_E} {H : Heap} (h : zz_Z K A s ad w H) : zz_W K A ad w H := h.2.2
def zx_el (ad : Nat → Nat → Nat) (N : Nat → Nat → Nat) (t : Nat) : Nat → Option Nat := fun i => if i < N 0 t then some (if t = 0 then ad 3 i else if t = 1 then ad 5 i else ad 5 (N 9 i)) else none
def zx_c (K : zz_G) (ad : Nat → Nat → Nat) (E : Nat → Nat → Int32) (cap : Nat → Nat) (N : Nat → Nat → Nat) (G : Nat → Nat → Int32) (L : Nat → Int64) : Nat → Nat → Option va_E := fun k => match k with
  | 0 => fun i => if i = 0 then some (.inr (5, [.ref (ad 1 0), .ref (ad 1 1), .ref (ad 1 2), .int (nI (N 12 0)), .int (nI (N 12 1)), .long (L 0), .long (L 1), .long (L 2)])) else none
  | 1 => fun t => if t < 3 then some (.inr (2, [.int (E 0 t), .ref (ad 2 t), .int (nI (N 0 t))])) else none
  | 2 => fun t => if t < 3 ∧ cap t ≠ 0 then some (.inl (K.2.1 2, cap t, .inr (.inr (.inr (.inr (zx_el ad N t)))))) else none
  | 3 => fun f => if f < N 0 0 then some (.inr (3, [.int (nI f), .int (nI (N 1 f)), .int (nI (N 2 f)), .int (nI (N 3 f)), .int (G 0 f), .int (G 1 f), .ref (ad 4 f)])) else none
  | 4 => fun f => if f < N 0 0 then some (.inl (K.2.1 0, 13, .inl (E (1 + f)))) else none
  | 5 => fun q => if q < N 0 1 then some (.inr (4, [.int (nI q), .int (nI (N 4 q)), .int (nI (N 5 q)), zz_rf (ad 3) (N 11 q), zz_rf (ad 3) (N 6 q), .int (nI (N 7 q)), .int (nI (N 8 q))])) else none
  | _ => fun _ => none
theorem zx_el_k {ad : Nat → Nat → Nat} {N : Nat → Nat → Nat} {k i v t : Nat} (h0 : 0 ≠ k) (h9 : 9 ≠ k) : zx_el ad (zu N k i v) t = zx_el ad N t := by
  funext j
  simp [zx_el, zu, h0, h9]
section ZX
variable {K : zz_G} {A : Nat → Prop} {ad : Nat → Nat → Nat} {E : Nat → Nat → Int32} {cap : Nat → Nat} {N : Nat → Nat → Nat} {G : Nat → Nat → Int32} {L : Nat → Int64} {H H1 : Heap}
theorem zx_ob (h : zz_W K A ad (zx_c K ad E cap N G L) H) : zz_at K (ad 0 0) (.inr (5, [.ref (ad 1 0), .ref (ad 1 1), .ref (ad 1 2), .int (nI (N 12 0)), .int (nI (N 12 1)), .long (L 0), .long (L 1), .long (L 2)])) H ∧ A (ad 0 0) := h.1 0 0 _ (by simp [zx_c])
theorem zx_li {t : Nat} (h : zz_W K A ad (zx_c K ad E cap N G L) H) (ht : t < 3) : zz_at K (ad 1 t) (.inr (2, [.int (E 0 t), .ref (ad 2 t), .int (nI (N 0 t))])) H ∧ A (ad 1 t) := h.1 1 t _ (by simp [zx_c, ht])
theorem zx_ar {t : Nat} (h : zz_W K A ad (zx_c K ad E cap N G L) H) (ht : t < 3) (hc : cap t ≠ 0) : zz_at K (ad 2 t) (.inl (K.2.1 2, cap t, .inr (.inr (.inr (.inr (zx_el ad N t)))))) H ∧ A (ad 2 t) := h.1 2 t _ (by simp [zx_c, ht, hc])
theorem zx_fl {f : Nat} (h : zz_W K A ad (zx_c K ad E cap N G L) H) (hf : f < N 0 0) : zz_at K (ad 3 f) (.inr (3, [.int (nI f), .int (nI (N 1 f)), .int (nI (N 2 f)), .int (nI (N 3 f)), .int (G 0 f), .int (G 1 f), .ref (ad 4 f)])) H ∧ A (ad 3 f) := h.1 3 f _ (by simp [zx_c, hf])
theorem zx_ks {f : Nat} (h : zz_W K A ad (zx_c K ad E cap N G L) H) (hf : f < N 0 0) : zz_at K (ad 4 f) (.inl (K.2.1 0, 13, .inl (E (1 + f)))) H ∧ A (ad 4 f) := h.1 4 f _ (by simp [zx_c, hf])
theorem zx_pe {q : Nat} (h : zz_W K A ad (zx_c K ad E cap N G L) H) (hq : q < N 0 1) : zz_at K (ad 5 q) (.inr (4, [.int (nI q), .int (nI (N 4 q)), .int (nI (N 5 q)), zz_rf (ad 3) (N 11 q), zz_rf (ad 3) (N 6 q), .int (nI (N 7 q)), .int (nI (N 8 q))])) H ∧ A (ad 5 q) := h.1 5 q _ (by simp [zx_c, hq])
theorem zx_inj3 (h : zz_W K A ad (zx_c K ad E cap N G L) H) {f g : Nat} (hf : f < N 0 0) (hg : g < N 0 0) (e : ad 3 f = ad 3 g) : f = g := (h.2 3 f _ 3 g _ (by simp [zx_c, hf]; rfl) (by simp [zx_c, hg]; rfl) e).2
theorem zx_inj5 (h : zz_W K A ad (zx_c K ad E cap N G L) H) {f g : Nat} (hf : f < N 0 1) (hg : g < N 0 1) (e : ad 5 f = ad 5 g) : f = g := (h.2 5 f _ 5 g _ (by simp [zx_c, hf]; rfl) (by simp [zx_c, hg]; rfl) e).2
theorem zx_seq (h : zz_W K A ad (zx_c K ad E cap N G L) H) {x f : Nat} (hx : x ≤ N 0 0) (hf : f < N 0 0) : zz_ro (ad 3) x = some (ad 3 f) ↔ x = f + 1 := by
  cases x with
  | zero => simp [zz_ro]
  | succ j =>
    simp only [zz_ro, Option.some.injEq]
    constructor
    · intro e; rw [zx_inj3 h (by omega) hf e]
    · intro e; rw [Nat.succ.inj e]
theorem zx_put_day {v : Nat} (h : zz_W K A ad (zx_c K ad E cap N G L) H) (hat : zz_at K (ad 0 0) (.inr (5, [.ref (ad 1 0), .ref (ad 1 1), .ref (ad 1 2), .int (nI v), .int (nI (N 12 1)), .long (L 0), .long (L 1), .long (L 2)])) H1) (ho : ∀ r : Nat, r ≠ ad 0 0 → H1[r]? = H[r]?) : zz_W K A ad (zx_c K ad E cap (zu N 12 0 v) G L) H1 := by
  refine h.put 0 0 (by simp [zx_c]; rfl) (by simp [zx_c, zu]; try rfl) hat ho (fun k' i' hn => ?_)
  match k' with
  | 0 | 1 | 2 | 3 | 4 | 5 => simp [zx_c, zx_el_k, zu] <;> (try (intros; simp_all)) <;> (try (congr 1; simp_all))
  | k + 6 => rfl
theorem zx_put_noShows {v : Nat} (h : zz_W K A ad (zx_c K ad E cap N G L) H) (hat : zz_at K (ad 0 0) (.inr (5, [.ref (ad 1 0), .ref (ad 1 1), .ref (ad 1 2), .int (nI (N 12 0)), .int (nI (v)), .long (L 0), .long (L 1), .long (L 2)])) H1) (ho : ∀ r : Nat, r ≠ ad 0 0 → H1[r]? = H[r]?) : zz_W K A ad (zx_c K ad E cap (zu N 12 1 v) G L) H1 := by
  refine h.put 0 0 (by simp [zx_c]; rfl) (by simp [zx_c, zu]; try rfl) hat ho (fun k' i' hn => ?_)
  match k' with
  | 0 | 1 | 2 | 3 | 4 | 5 => simp [zx_c, zx_el_k, zu] <;> (try (intros; simp_all)) <;> (try (congr 1; simp_all))
  | k + 6 => rfl
theorem zx_put_energy {v : Int64} (h : zz_W K A ad (zx_c K ad E cap N G L) H) (hat : zz_at K (ad 0 0) (.inr (5, [.ref (ad 1 0), .ref (ad 1 1), .ref (ad 1 2), .int (nI (N 12 0)), .int (nI (N 12 1)), .long (v), .long (L 1), .long (L 2)])) H1) (ho : ∀ r : Nat, r ≠ ad 0 0 → H1[r]? = H[r]?) : zz_W K A ad (zx_c K ad E cap N G (zl L 0 v)) H1 := by
  refine h.put 0 0 (by simp [zx_c]; rfl) (by simp [zx_c, zl]; try rfl) hat ho (fun k' i' hn => ?_)
  match k' with
  | 0 | 1 | 2 | 3 | 4 | 5 => simp [zx_c, zx_el_k, zl] <;> (try (intros; simp_all)) <;> (try (congr 1; simp_all))
  | k + 6 => rfl
theorem zx_put_discomfort {v : Int64} (h : zz_W K A ad (zx_c K ad E cap N G L) H) (hat : zz_at K (ad 0 0) (.inr (5, [.ref (ad 1 0), .ref (ad 1 1), .ref (ad 1 2), .int (nI (N 12 0)), .int (nI (N 12 1)), .long (L 0), .long (v), .long (L 2)])) H1) (ho : ∀ r : Nat, r ≠ ad 0 0 → H1[r]? = H[r]?) : zz_W K A ad (zx_c K ad E cap N G (zl L 1 v)) H1 := by
  refine h.put 0 0 (by simp [zx_c]; rfl) (by simp [zx_c, zl]; try rfl) hat ho (fun k' i' hn => ?_)
  match k' with
  | 0 | 1 | 2 | 3 | 4 | 5 => simp [zx_c, zx_el_k, zl] <;> (try (intros; simp_all)) <;> (try (congr 1; simp_all))
  | k + 6 => rfl
theorem zx_put_cleaning {v : Int64} (h : zz_W K A ad (zx_c K ad E cap N G L) H) (hat : zz_at K (ad 0 0) (.inr (5, [.ref (ad 1 0), .ref (ad 1 1), .ref (ad 1 2), .int (nI (N 12 0)), .int (nI (N 12 1)), .long (L 0), .long (L 1), .long (v)])) H1) (ho : ∀ r : Nat, r ≠ ad 0 0 → H1[r]? = H[r]?) : zz_W K A ad (zx_c K ad E cap N G (zl L 2 v)) H1 := by
  refine h.put 0 0 (by simp [zx_c]; rfl) (by simp [zx_c, zl]; try rfl) hat ho (fun k' i' hn => ?_)
  match k' with
  | 0 | 1 | 2 | 3 | 4 | 5 => simp [zx_c, zx_el_k, zl] <;> (try (intros; simp_all)) <;> (try (congr 1; simp_all))
  | k + 6 => rfl
theorem zx_put_cost {f v : Nat} (h : zz_W K A ad (zx_c K ad E cap N G L) H) (hf : f < N 0 0) (hat : zz_at K (ad 3 f) (.inr (3, [.int (nI f), .int (nI (N 1 f)), .int (nI (v)), .int (nI (N 3 f)), .int (G 0 f), .int (G 1 f), .ref (ad 4 f)])) H1) (ho : ∀ r : Nat, r ≠ ad 3 f → H1[r]? = H[r]?) : zz_W K A ad (zx_c K ad E cap (zu N 2 f v) G L) H1 := by
  refine h.put 3 f (by simp [zx_c, hf]; rfl) (by simp [zx_c, zu, hf]; try rfl) hat ho (fun k' i' hn => ?_)
  match k' with
  | 0 | 1 | 2 | 3 | 4 | 5 => simp [zx_c, zx_el_k, zu] <;> (try (intros; simp_all)) <;> (try (congr 1; simp_all))
  | k + 6 => rfl
theorem zx_put_open {f v : Nat} (h : zz_W K A ad (zx_c K ad E cap N G L) H) (hf : f < N 0 0) (hat : zz_at K (ad 3 f) (.inr (3, [.int (nI f), .int (nI (N 1 f)), .int (nI (N 2 f)), .int (nI (v)), .int (G 0 f), .int (G 1 f), .ref (ad 4 f)])) H1) (ho : ∀ r : Nat, r ≠ ad 3 f → H1[r]? = H[r]?) : zz_W K A ad (zx_c K ad E cap (zu N 3 f v) G L) H1 := by
  refine h.put 3 f (by simp [zx_c, hf]; rfl) (by simp [zx_c, zu, hf]; try rfl) hat ho (fun k' i' hn => ?_)
  match k' with
  | 0 | 1 | 2 | 3 | 4 | 5 => simp [zx_c, zx_el_k, zu] <;> (try (intros; simp_all)) <;> (try (congr 1; simp_all))
  | k + 6 => rfl
theorem zx_put_warmth {f : Nat} {v : Int32} (h : zz_W K A ad (zx_c K ad E cap N G L) H) (hf : f < N 0 0) (hat : zz_at K (ad 3 f) (.inr (3, [.int (nI f), .int (nI (N 1 f)), .int (nI (N 2 f)), .int (nI (N 3 f)), .int (v), .int (G 1 f), .ref (ad 4 f)])) H1) (ho : ∀ r : Nat, r ≠ ad 3 f → H1[r]? = H[r]?) : zz_W K A ad (zx_c K ad E cap N (zg G 0 f v) L) H1 := by
  refine h.put 3 f (by simp [zx_c, hf]; rfl) (by simp [zx_c, zg, hf]; try rfl) hat ho (fun k' i' hn => ?_)
  match k' with
  | 0 | 1 | 2 | 3 | 4 | 5 => simp [zx_c, zx_el_k, zg] <;> (try (intros; simp_all)) <;> (try (congr 1; simp_all))
  | k + 6 => rfl
theorem zx_put_air {f : Nat} {v : Int32} (h : zz_W K A ad (zx_c K ad E cap N G L) H) (hf : f < N 0 0) (hat : zz_at K (ad 3 f) (.inr (3, [.int (nI f), .int (nI (N 1 f)), .int (nI (N 2 f)), .int (nI (N 3 f)), .int (G 0 f), .int (v), .ref (ad 4 f)])) H1) (ho : ∀ r : Nat, r ≠ ad 3 f → H1[r]? = H[r]?) : zz_W K A ad (zx_c K ad E cap N (zg G 1 f v) L) H1 := by
  refine h.put 3 f (by simp [zx_c, hf]; rfl) (by simp [zx_c, zg, hf]; try rfl) hat ho (fun k' i' hn => ?_)
  match k' with
  | 0 | 1 | 2 | 3 | 4 | 5 => simp [zx_c, zx_el_k, zg] <;> (try (intros; simp_all)) <;> (try (congr 1; simp_all))
  | k + 6 => rfl
theorem zx_put_standing {q v : Nat} (h : zz_W K A ad (zx_c K ad E cap N G L) H) (hf : q < N 0 1) (hat : zz_at K (ad 5 q) (.inr (4, [.int (nI q), .int (nI (N 4 q)), .int (nI (v)), zz_rf (ad 3) (N 11 q), zz_rf (ad 3) (N 6 q), .int (nI (N 7 q)), .int (nI (N 8 q))])) H1) (ho : ∀ r : Nat, r ≠ ad 5 q → H1[r]? = H[r]?) : zz_W K A ad (zx_c K ad E cap (zu N 5 q v) G L) H1 := by
  refine h.put 5 q (by simp [zx_c, hf]; rfl) (by simp [zx_c, zu, hf]; try rfl) hat ho (fun k' i' hn => ?_)
  match k' with
  | 0 | 1 | 2 | 3 | 4 | 5 => simp [zx_c, zx_el_k, zu] <;> (try (intros; simp_all)) <;> (try (congr 1; simp_all))
  | k + 6 => rfl
theorem zx_put_wanted {q v : Nat} (h : zz_W K A ad (zx_c K ad E cap N G L) H) (hf : q < N 0 1) (hat : zz_at K (ad 5 q) (.inr (4, [.int (nI q), .int (nI (N 4 q)), .int (nI (N 5 q)), zz_rf (ad 3) (v), zz_rf (ad 3) (N 6 q), .int (nI (N 7 q)), .int (nI (N 8 q))])) H1) (ho : ∀ r : Nat, r ≠ ad 5 q → H1[r]? = H[r]?) : zz_W K A ad (zx_c K ad E cap (zu N 11 q v) G L) H1 := by
  refine h.put 5 q (by simp [zx_c, hf]; rfl) (by simp [zx_c, zu, hf]; try rfl) hat ho (fun k' i' hn => ?_)
  match k' with
  | 0 | 1 | 2 | 3 | 4 | 5 => simp [zx_c, zx_el_k, zu] <;> (try (intros; simp_all)) <;> (try (congr 1; simp_all))
  | k + 6 => rfl
theorem zx_put_seat {q v : Nat} (h : zz_W K A ad (zx_c K ad E cap N G L) H) (hf : q < N 0 1) (hat : zz_at K (ad 5 q) (.inr (4, [.int (nI q), .int (nI (N 4 q)), .int (nI (N 5 q)), zz_rf (ad 3) (N 11 q), zz_rf (ad 3) (v), .int (nI (N 7 q)), .int (nI (N 8 q))])) H1) (ho : ∀ r : Nat, r ≠ ad 5 q → H1[r]? = H[r]?) : zz_W K A ad (zx_c K ad E cap (zu N 6 q v) G L) H1 := by
  refine h.put 5 q (by simp [zx_c, hf]; rfl) (by simp [zx_c, zu, hf]; try rfl) hat ho (fun k' i' hn => ?_)
  match k' with
  | 0 | 1 | 2 | 3 | 4 | 5 => simp [zx_c, zx_el_k, zu] <;> (try (intros; simp_all)) <;> (try (congr 1; simp_all))
  | k + 6 => rfl
theorem zx_put_in {q v : Nat} (h : zz_W K A ad (zx_c K ad E cap N G L) H) (hf : q < N 0 1) (hat : zz_at K (ad 5 q) (.inr (4, [.int (nI q), .int (nI (N 4 q)), .int (nI (N 5 q)), zz_rf (ad 3) (N 11 q), zz_rf (ad 3) (N 6 q), .int (nI (v)), .int (nI (N 8 q))])) H1) (ho : ∀ r : Nat, r ≠ ad 5 q → H1[r]? = H[r]?) : zz_W K A ad (zx_c K ad E cap (zu N 7 q v) G L) H1 := by
  refine h.put 5 q (by simp [zx_c, hf]; rfl) (by simp [zx_c, zu, hf]; try rfl) hat ho (fun k' i' hn => ?_)
  match k' with
  | 0 | 1 | 2 | 3 | 4 | 5 => simp [zx_c, zx_el_k, zu] <;> (try (intros; simp_all)) <;> (try (congr 1; simp_all))
  | k + 6 => rfl
theorem zx_put_came {q v : Nat} (h : zz_W K A ad (zx_c K ad E cap N G L) H) (hf : q < N 0 1) (hat : zz_at K (ad 5 q) (.inr (4, [.int (nI q), .int (nI (N 4 q)), .int (nI (N 5 q)), zz_rf (ad 3) (N 11 q), zz_rf (ad 3) (N 6 q), .int (nI (N 7 q)), .int (nI (v))])) H1) (ho : ∀ r : Nat, r ≠ ad 5 q → H1[r]? = H[r]?) : zz_W K A ad (zx_c K ad E cap (zu N 8 q v) G L) H1 := by
  refine h.put 5 q (by simp [zx_c, hf]; rfl) (by simp [zx_c, zu, hf]; try rfl) hat ho (fun k' i' hn => ?_)
  match k' with
  | 0 | 1 | 2 | 3 | 4 | 5 => simp [zx_c, zx_el_k, zu] <;> (try (intros; simp_all)) <;> (try (congr 1; simp_all))
  | k + 6 => rfl
end ZX
def zm_a (K : zz_G) (N : Nat → Nat → Nat) (G : Nat → Nat → Int32) : Nat → Option va_E := fun j => match j with
  | 0 => some (.inl (K.2.1 0, 6, .inl (fun i => nI (N 1 i))))
  | 1 => some (.inl (K.2.1 0, 6, .inl (fun i => nI (N 2 i))))
  | 2 => some (.inl (K.2.1 0, 6, .inl (fun i => G 0 i)))
  | 3 => some (.inl (K.2.1 0, 6, .inl (fun i => G 1 i)))
  | 4 => some (.inl (K.2.1 1, 6, .inl (fun i => nI (N 3 i))))
  | 5 => some (.inl (K.2.1 0, 12, .inl (fun i => nI (N 4 i))))
  | 6 => some (.inl (K.2.1 0, 12, .inl (fun i => nI (N 5 i))))
  | 7 => some (.inl (K.2.1 0, 12, .inl (fun i => nI (N 6 i) - 1)))
  | 8 => some (.inl (K.2.1 1, 12, .inl (fun i => nI (N 7 i))))
  | 9 => some (.inl (K.2.1 1, 12, .inl (fun i => nI (N 8 i))))
  | 10 => some (.inl (K.2.1 1, 12, .inl (fun _ => 0)))
  | 11 => some (.inl (K.2.1 0, 12, .inl (fun i => nI (N 9 i))))
  | 12 => some (.inl (K.2.1 0, 12, .inl (fun i => nI (N 10 i))))
  | _ => none
def zm_c (K : zz_G) (ad : Nat → Nat → Nat) (th : Int32) (N : Nat → Nat → Nat) (G : Nat → Nat → Int32) (L : Nat → Int64) : Nat → Nat → Option va_E := fun k => match k with
  | 0 => fun i => if i = 0 then some (.inr (6, [.int th, .int (nI (N 0 0)), .int (nI (N 0 1)), .int (nI (N 0 2)), .int (nI (N 12 0)), .int (nI (N 12 1)), .ref (ad 1 0), .ref (ad 1 1), .ref (ad 1 2), .ref (ad 1 3), .ref (ad 1 4), .ref (ad 1 5), .ref (ad 1 6), .ref (ad 1 7), .ref (ad 1 8), .ref (ad 1 9), .ref (ad 1 10), .ref (ad 1 11), .ref (ad 1 12), .long (L 0), .long (L 1), .long (L 2)])) else none
  | 1 => fun j => zm_a K N G j
  | _ => fun _ => none
section ZM
variable {K : zz_G} {A : Nat → Prop} {ad : Nat → Nat → Nat} {th : Int32} {N : Nat → Nat → Nat} {G : Nat → Nat → Int32} {L : Nat → Int64} {H H1 : Heap}
theorem zm_ob (h : zz_W K A ad (zm_c K ad th N G L) H) : zz_at K (ad 0 0) (.inr (6, [.int th, .int (nI (N 0 0)), .int (nI (N 0 1)), .int (nI (N 0 2)), .int (nI (N 12 0)), .int (nI (N 12 1)), .ref (ad 1 0), .ref (ad 1 1), .ref (ad 1 2), .ref (ad 1 3), .ref (ad 1 4), .ref (ad 1 5), .ref (ad 1 6), .ref (ad 1 7), .ref (ad 1 8), .ref (ad 1 9), .ref (ad 1 10), .ref (ad 1 11), .ref (ad 1 12), .long (L 0), .long (L 1), .long (L 2)])) H ∧ A (ad 0 0) := h.1 0 0 _ (by simp [zm_c])
theorem zm_seats (h : zz_W K A ad (zm_c K ad th N G L) H) : zz_at K (ad 1 0) (.inl (K.2.1 0, 6, .inl (fun i => nI (N 1 i)))) H ∧ A (ad 1 0) := h.1 1 0 _ rfl
theorem zm_cost (h : zz_W K A ad (zm_c K ad th N G L) H) : zz_at K (ad 1 1) (.inl (K.2.1 0, 6, .inl (fun i => nI (N 2 i)))) H ∧ A (ad 1 1) := h.1 1 1 _ rfl
theorem zm_warmth (h : zz_W K A ad (zm_c K ad th N G L) H) : zz_at K (ad 1 2) (.inl (K.2.1 0, 6, .inl (fun i => G 0 i))) H ∧ A (ad 1 2) := h.1 1 2 _ rfl
theorem zm_air (h : zz_W K A ad (zm_c K ad th N G L) H) : zz_at K (ad 1 3) (.inl (K.2.1 0, 6, .inl (fun i => G 1 i))) H ∧ A (ad 1 3) := h.1 1 3 _ rfl
theorem zm_isOpen (h : zz_W K A ad (zm_c K ad th N G L) H) : zz_at K (ad 1 4) (.inl (K.2.1 1, 6, .inl (fun i => nI (N 3 i)))) H ∧ A (ad 1 4) := h.1 1 4 _ rfl
theorem zm_team (h : zz_W K A ad (zm_c K ad th N G L) H) : zz_at K (ad 1 5) (.inl (K.2.1 0, 12, .inl (fun i => nI (N 4 i)))) H ∧ A (ad 1 5) := h.1 1 5 _ rfl
theorem zm_standing (h : zz_W K A ad (zm_c K ad th N G L) H) : zz_at K (ad 1 6) (.inl (K.2.1 0, 12, .inl (fun i => nI (N 5 i)))) H ∧ A (ad 1 6) := h.1 1 6 _ rfl
theorem zm_seat (h : zz_W K A ad (zm_c K ad th N G L) H) : zz_at K (ad 1 7) (.inl (K.2.1 0, 12, .inl (fun i => nI (N 6 i) - 1))) H ∧ A (ad 1 7) := h.1 1 7 _ rfl
theorem zm_isIn (h : zz_W K A ad (zm_c K ad th N G L) H) : zz_at K (ad 1 8) (.inl (K.2.1 1, 12, .inl (fun i => nI (N 7 i)))) H ∧ A (ad 1 8) := h.1 1 8 _ rfl
theorem zm_hasCome (h : zz_W K A ad (zm_c K ad th N G L) H) : zz_at K (ad 1 9) (.inl (K.2.1 1, 12, .inl (fun i => nI (N 8 i)))) H ∧ A (ad 1 9) := h.1 1 9 _ rfl
theorem zm_isServed (h : zz_W K A ad (zm_c K ad th N G L) H) : zz_at K (ad 1 10) (.inl (K.2.1 1, 12, .inl (fun _ => 0))) H ∧ A (ad 1 10) := h.1 1 10 _ rfl
theorem zm_booker (h : zz_W K A ad (zm_c K ad th N G L) H) : zz_at K (ad 1 11) (.inl (K.2.1 0, 12, .inl (fun i => nI (N 9 i)))) H ∧ A (ad 1 11) := h.1 1 11 _ rfl
theorem zm_wanted (h : zz_W K A ad (zm_c K ad th N G L) H) : zz_at K (ad 1 12) (.inl (K.2.1 0, 12, .inl (fun i => nI (N 10 i)))) H ∧ A (ad 1 12) := h.1 1 12 _ rfl
theorem zm_put_thrown {v : Int32} (h : zz_W K A ad (zm_c K ad th N G L) H) (hat : zz_at K (ad 0 0) (.inr (6, [.int v, .int (nI (N 0 0)), .int (nI (N 0 1)), .int (nI (N 0 2)), .int (nI (N 12 0)), .int (nI (N 12 1)), .ref (ad 1 0), .ref (ad 1 1), .ref (ad 1 2), .ref (ad 1 3), .ref (ad 1 4), .ref (ad 1 5), .ref (ad 1 6), .ref (ad 1 7), .ref (ad 1 8), .ref (ad 1 9), .ref (ad 1 10), .ref (ad 1 11), .ref (ad 1 12), .long (L 0), .long (L 1), .long (L 2)])) H1) (ho : ∀ q : Nat, q ≠ ad 0 0 → H1[q]? = H[q]?) : zz_W K A ad (zm_c K ad v N G L) H1 := by
  refine h.put 0 0 (by simp [zm_c]; rfl) (by simp [zm_c, zm_c]; try rfl) hat ho (fun k' i' hn => ?_)
  match k' with
  | 0 => simp [zm_c] <;> (try (intros; simp_all))
  | 1 => rfl
  | k + 2 => rfl
theorem zm_put_floors {v : Nat} (h : zz_W K A ad (zm_c K ad th N G L) H) (hat : zz_at K (ad 0 0) (.inr (6, [.int th, .int (nI (v)), .int (nI (N 0 1)), .int (nI (N 0 2)), .int (nI (N 12 0)), .int (nI (N 12 1)), .ref (ad 1 0), .ref (ad 1 1), .ref (ad 1 2), .ref (ad 1 3), .ref (ad 1 4), .ref (ad 1 5), .ref (ad 1 6), .ref (ad 1 7), .ref (ad 1 8), .ref (ad 1 9), .ref (ad 1 10), .ref (ad 1 11), .ref (ad 1 12), .long (L 0), .long (L 1), .long (L 2)])) H1) (ho : ∀ q : Nat, q ≠ ad 0 0 → H1[q]? = H[q]?) : zz_W K A ad (zm_c K ad th (zu N 0 0 v) G L) H1 := by
  refine h.put 0 0 (by simp [zm_c]; rfl) (by simp [zm_c, zu]; try rfl) hat ho (fun k' i' hn => ?_)
  match k' with
  | 0 => simp [zm_c] <;> (try (intros; simp_all))
  | 1 => rfl
  | k + 2 => rfl
theorem zm_put_people {v : Nat} (h : zz_W K A ad (zm_c K ad th N G L) H) (hat : zz_at K (ad 0 0) (.inr (6, [.int th, .int (nI (N 0 0)), .int (nI (v)), .int (nI (N 0 2)), .int (nI (N 12 0)), .int (nI (N 12 1)), .ref (ad 1 0), .ref (ad 1 1), .ref (ad 1 2), .ref (ad 1 3), .ref (ad 1 4), .ref (ad 1 5), .ref (ad 1 6), .ref (ad 1 7), .ref (ad 1 8), .ref (ad 1 9), .ref (ad 1 10), .ref (ad 1 11), .ref (ad 1 12), .long (L 0), .long (L 1), .long (L 2)])) H1) (ho : ∀ q : Nat, q ≠ ad 0 0 → H1[q]? = H[q]?) : zz_W K A ad (zm_c K ad th (zu N 0 1 v) G L) H1 := by
  refine h.put 0 0 (by simp [zm_c]; rfl) (by simp [zm_c, zu]; try rfl) hat ho (fun k' i' hn => ?_)
  match k' with
  | 0 => simp [zm_c] <;> (try (intros; simp_all))
  | 1 => rfl
  | k + 2 => rfl
theorem zm_put_bookings {v : Nat} (h : zz_W K A ad (zm_c K ad th N G L) H) (hat : zz_at K (ad 0 0) (.inr (6, [.int th, .int (nI (N 0 0)), .int (nI (N 0 1)), .int (nI (v)), .int (nI (N 12 0)), .int (nI (N 12 1)), .ref (ad 1 0), .ref (ad 1 1), .ref (ad 1 2), .ref (ad 1 3), .ref (ad 1 4), .ref (ad 1 5), .ref (ad 1 6), .ref (ad 1 7), .ref (ad 1 8), .ref (ad 1 9), .ref (ad 1 10), .ref (ad 1 11), .ref (ad 1 12), .long (L 0), .long (L 1), .long (L 2)])) H1) (ho : ∀ q : Nat, q ≠ ad 0 0 → H1[q]? = H[q]?) : zz_W K A ad (zm_c K ad th (zu N 0 2 v) G L) H1 := by
  refine h.put 0 0 (by simp [zm_c]; rfl) (by simp [zm_c, zu]; try rfl) hat ho (fun k' i' hn => ?_)
  match k' with
  | 0 => simp [zm_c] <;> (try (intros; simp_all))
  | 1 => rfl
  | k + 2 => rfl
theorem zm_put_day {v : Nat} (h : zz_W K A ad (zm_c K ad th N G L) H) (hat : zz_at K (ad 0 0) (.inr (6, [.int th, .int (nI (N 0 0)), .int (nI (N 0 1)), .int (nI (N 0 2)), .int (nI (v)), .int (nI (N 12 1)), .ref (ad 1 0), .ref (ad 1 1), .ref (ad 1 2), .ref (ad 1 3), .ref (ad 1 4), .ref (ad 1 5), .ref (ad 1 6), .ref (ad 1 7), .ref (ad 1 8), .ref (ad 1 9), .ref (ad 1 10), .ref (ad 1 11), .ref (ad 1 12), .long (L 0), .long (L 1), .long (L 2)])) H1) (ho : ∀ q : Nat, q ≠ ad 0 0 → H1[q]? = H[q]?) : zz_W K A ad (zm_c K ad th (zu N 12 0 v) G L) H1 := by
  refine h.put 0 0 (by simp [zm_c]; rfl) (by simp [zm_c, zu]; try rfl) hat ho (fun k' i' hn => ?_)
  match k' with
  | 0 => simp [zm_c] <;> (try (intros; simp_all))
  | 1 => rfl
  | k + 2 => rfl
theorem zm_put_noShows {v : Nat} (h : zz_W K A ad (zm_c K ad th N G L) H) (hat : zz_at K (ad 0 0) (.inr (6, [.int th, .int (nI (N 0 0)), .int (nI (N 0 1)), .int (nI (N 0 2)), .int (nI (N 12 0)), .int (nI (v)), .ref (ad 1 0), .ref (ad 1 1), .ref (ad 1 2), .ref (ad 1 3), .ref (ad 1 4), .ref (ad 1 5), .ref (ad 1 6), .ref (ad 1 7), .ref (ad 1 8), .ref (ad 1 9), .ref (ad 1 10), .ref (ad 1 11), .ref (ad 1 12), .long (L 0), .long (L 1), .long (L 2)])) H1) (ho : ∀ q : Nat, q ≠ ad 0 0 → H1[q]? = H[q]?) : zz_W K A ad (zm_c K ad th (zu N 12 1 v) G L) H1 := by
  refine h.put 0 0 (by simp [zm_c]; rfl) (by simp [zm_c, zu]; try rfl) hat ho (fun k' i' hn => ?_)
  match k' with
  | 0 => simp [zm_c] <;> (try (intros; simp_all))
  | 1 => rfl
  | k + 2 => rfl
theorem zm_put_menergy {v : Int64} (h : zz_W K A ad (zm_c K ad th N G L) H) (hat : zz_at K (ad 0 0) (.inr (6, [.int th, .int (nI (N 0 0)), .int (nI (N 0 1)), .int (nI (N 0 2)), .int (nI (N 12 0)), .int (nI (N 12 1)), .ref (ad 1 0), .ref (ad 1 1), .ref (ad 1 2), .ref (ad 1 3), .ref (ad 1 4), .ref (ad 1 5), .ref (ad 1 6), .ref (ad 1 7), .ref (ad 1 8), .ref (ad 1 9), .ref (ad 1 10), .ref (ad 1 11), .ref (ad 1 12), .long (v), .long (L 1), .long (L 2)])) H1) (ho : ∀ q : Nat, q ≠ ad 0 0 → H1[q]? = H[q]?) : zz_W K A ad (zm_c K ad th N G (zl L 0 v)) H1 := by
  refine h.put 0 0 (by simp [zm_c]; rfl) (by simp [zm_c, zl]; try rfl) hat ho (fun k' i' hn => ?_)
  match k' with
  | 0 => simp [zm_c] <;> (try (intros; simp_all))
  | 1 => rfl
  | k + 2 => rfl
theorem zm_put_mdiscomfort {v : Int64} (h : zz_W K A ad (zm_c K ad th N G L) H) (hat : zz_at K (ad 0 0) (.inr (6, [.int th, .int (nI (N 0 0)), .int (nI (N 0 1)), .int (nI (N 0 2)), .int (nI (N 12 0)), .int (nI (N 12 1)), .ref (ad 1 0), .ref (ad 1 1), .ref (ad 1 2), .ref (ad 1 3), .ref (ad 1 4), .ref (ad 1 5), .ref (ad 1 6), .ref (ad 1 7), .ref (ad 1 8), .ref (ad 1 9), .ref (ad 1 10), .ref (ad 1 11), .ref (ad 1 12), .long (L 0), .long (v), .long (L 2)])) H1) (ho : ∀ q : Nat, q ≠ ad 0 0 → H1[q]? = H[q]?) : zz_W K A ad (zm_c K ad th N G (zl L 1 v)) H1 := by
  refine h.put 0 0 (by simp [zm_c]; rfl) (by simp [zm_c, zl]; try rfl) hat ho (fun k' i' hn => ?_)
  match k' with
  | 0 => simp [zm_c] <;> (try (intros; simp_all))
  | 1 => rfl
  | k + 2 => rfl
theorem zm_put_mcleaning {v : Int64} (h : zz_W K A ad (zm_c K ad th N G L) H) (hat : zz_at K (ad 0 0) (.inr (6, [.int th, .int (nI (N 0 0)), .int (nI (N 0 1)), .int (nI (N 0 2)), .int (nI (N 12 0)), .int (nI (N 12 1)), .ref (ad 1 0), .ref (ad 1 1), .ref (ad 1 2), .ref (ad 1 3), .ref (ad 1 4), .ref (ad 1 5), .ref (ad 1 6), .ref (ad 1 7), .ref (ad 1 8), .ref (ad 1 9), .ref (ad 1 10), .ref (ad 1 11), .ref (ad 1 12), .long (L 0), .long (L 1), .long (v)])) H1) (ho : ∀ q : Nat, q ≠ ad 0 0 → H1[q]? = H[q]?) : zz_W K A ad (zm_c K ad th N G (zl L 2 v)) H1 := by
  refine h.put 0 0 (by simp [zm_c]; rfl) (by simp [zm_c, zl]; try rfl) hat ho (fun k' i' hn => ?_)
  match k' with
  | 0 => simp [zm_c] <;> (try (intros; simp_all))
  | 1 => rfl
  | k + 2 => rfl
theorem zm_put_a_seats {i v : Nat} {x y : Int32} (h : zz_W K A ad (zm_c K ad th N G L) H) (hi : i < 6) (hx : x.toNatClampNeg = i) (hy : y = nI v) (hat : zz_at K (ad 1 0) (.inl (K.2.1 0, 6, .inl (upd (fun i => nI (N 1 i)) x.toNatClampNeg y))) H1) (ho : ∀ q : Nat, q ≠ ad 1 0 → H1[q]? = H[q]?) : zz_W K A ad (zm_c K ad th (zu N 1 i v) G L) H1 := by
  subst hy
  rw [hx] at hat
  refine h.put 1 0 rfl rfl ?_ ho (fun k' i' hn => ?_)
  · refine (congrArg (fun f => zz_at K (ad 1 0) (.inl (K.2.1 0, 6, .inl f)) H1) (funext fun j => ?_)).mp hat
    by_cases hj : j = i
    · subst hj; simp [upd, zu]
    · simp [upd, zu, hj]
  · match k', i' with
    | 0, _ => rfl
    | 1, 0 | 1, 1 | 1, 2 | 1, 3 | 1, 4 | 1, 5 | 1, 6 | 1, 7 | 1, 8 | 1, 9 | 1, 10 | 1, 11 | 1, 12 => first | rfl | exact absurd ⟨rfl, rfl⟩ hn
    | 1, j + 13 => rfl
    | k + 2, _ => rfl
theorem zm_put_a_cost {i v : Nat} {x y : Int32} (h : zz_W K A ad (zm_c K ad th N G L) H) (hi : i < 6) (hx : x.toNatClampNeg = i) (hy : y = nI v) (hat : zz_at K (ad 1 1) (.inl (K.2.1 0, 6, .inl (upd (fun i => nI (N 2 i)) x.toNatClampNeg y))) H1) (ho : ∀ q : Nat, q ≠ ad 1 1 → H1[q]? = H[q]?) : zz_W K A ad (zm_c K ad th (zu N 2 i v) G L) H1 := by
  subst hy
  rw [hx] at hat
  refine h.put 1 1 rfl rfl ?_ ho (fun k' i' hn => ?_)
  · refine (congrArg (fun f => zz_at K (ad 1 1) (.inl (K.2.1 0, 6, .inl f)) H1) (funext fun j => ?_)).mp hat
    by_cases hj : j = i
    · subst hj; simp [upd, zu]
    · simp [upd, zu, hj]
  · match k', i' with
    | 0, _ => rfl
    | 1, 0 | 1, 1 | 1, 2 | 1, 3 | 1, 4 | 1, 5 | 1, 6 | 1, 7 | 1, 8 | 1, 9 | 1, 10 | 1, 11 | 1, 12 => first | rfl | exact absurd ⟨rfl, rfl⟩ hn
    | 1, j + 13 => rfl
    | k + 2, _ => rfl
theorem zm_put_a_warmth {i : Nat} {v : Int32} {x y : Int32} (h : zz_W K A ad (zm_c K ad th N G L) H) (hi : i < 6) (hx : x.toNatClampNeg = i) (hy : y = v) (hat : zz_at K (ad 1 2) (.inl (K.2.1 0, 6, .inl (upd (fun i => G 0 i) x.toNatClampNeg y))) H1) (ho : ∀ q : Nat, q ≠ ad 1 2 → H1[q]? = H[q]?) : zz_W K A ad (zm_c K ad th N (zg G 0 i v) L) H1 := by
  subst hy
  rw [hx] at hat
  refine h.put 1 2 rfl rfl ?_ ho (fun k' i' hn => ?_)
  · refine (congrArg (fun f => zz_at K (ad 1 2) (.inl (K.2.1 0, 6, .inl f)) H1) (funext fun j => ?_)).mp hat
    by_cases hj : j = i
    · subst hj; simp [upd, zg]
    · simp [upd, zg, hj]
  · match k', i' with
    | 0, _ => rfl
    | 1, 0 | 1, 1 | 1, 2 | 1, 3 | 1, 4 | 1, 5 | 1, 6 | 1, 7 | 1, 8 | 1, 9 | 1, 10 | 1, 11 | 1, 12 => first | rfl | exact absurd ⟨rfl, rfl⟩ hn
    | 1, j + 13 => rfl
    | k + 2, _ => rfl
theorem zm_put_a_air {i : Nat} {v : Int32} {x y : Int32} (h : zz_W K A ad (zm_c K ad th N G L) H) (hi : i < 6) (hx : x.toNatClampNeg = i) (hy : y = v) (hat : zz_at K (ad 1 3) (.inl (K.2.1 0, 6, .inl (upd (fun i => G 1 i) x.toNatClampNeg y))) H1) (ho : ∀ q : Nat, q ≠ ad 1 3 → H1[q]? = H[q]?) : zz_W K A ad (zm_c K ad th N (zg G 1 i v) L) H1 := by
  subst hy
  rw [hx] at hat
  refine h.put 1 3 rfl rfl ?_ ho (fun k' i' hn => ?_)
  · refine (congrArg (fun f => zz_at K (ad 1 3) (.inl (K.2.1 0, 6, .inl f)) H1) (funext fun j => ?_)).mp hat
    by_cases hj : j = i
    · subst hj; simp [upd, zg]
    · simp [upd, zg, hj]
  · match k', i' with
    | 0, _ => rfl
    | 1, 0 | 1, 1 | 1, 2 | 1, 3 | 1, 4 | 1, 5 | 1, 6 | 1, 7 | 1, 8 | 1, 9 | 1, 10 | 1, 11 | 1, 12 => first | rfl | exact absurd ⟨rfl, rfl⟩ hn
    | 1, j + 13 => rfl
    | k + 2, _ => rfl
theorem zm_put_a_isOpen {i v : Nat} {x y : Int32} (h : zz_W K A ad (zm_c K ad th N G L) H) (hi : i < 6) (hx : x.toNatClampNeg = i) (hy : y = nI v) (hat : zz_at K (ad 1 4) (.inl (K.2.1 1, 6, .inl (upd (fun i => nI (N 3 i)) x.toNatClampNeg y))) H1) (ho : ∀ q : Nat, q ≠ ad 1 4 → H1[q]? = H[q]?) : zz_W K A ad (zm_c K ad th (zu N 3 i v) G L) H1 := by
  subst hy
  rw [hx] at hat
  refine h.put 1 4 rfl rfl ?_ ho (fun k' i' hn => ?_)
  · refine (congrArg (fun f => zz_at K (ad 1 4) (.inl (K.2.1 1, 6, .inl f)) H1) (funext fun j => ?_)).mp hat
    by_cases hj : j = i
    · subst hj; simp [upd, zu]
    · simp [upd, zu, hj]
  · match k', i' with
    | 0, _ => rfl
    | 1, 0 | 1, 1 | 1, 2 | 1, 3 | 1, 4 | 1, 5 | 1, 6 | 1, 7 | 1, 8 | 1, 9 | 1, 10 | 1, 11 | 1, 12 => first | rfl | exact absurd ⟨rfl, rfl⟩ hn
    | 1, j + 13 => rfl
    | k + 2, _ => rfl
theorem zm_put_a_team {i v : Nat} {x y : Int32} (h : zz_W K A ad (zm_c K ad th N G L) H) (hi : i < 12) (hx : x.toNatClampNeg = i) (hy : y = nI v) (hat : zz_at K (ad 1 5) (.inl (K.2.1 0, 12, .inl (upd (fun i => nI (N 4 i)) x.toNatClampNeg y))) H1) (ho : ∀ q : Nat, q ≠ ad 1 5 → H1[q]? = H[q]?) : zz_W K A ad (zm_c K ad th (zu N 4 i v) G L) H1 := by
  subst hy
  rw [hx] at hat
  refine h.put 1 5 rfl rfl ?_ ho (fun k' i' hn => ?_)
  · refine (congrArg (fun f => zz_at K (ad 1 5) (.inl (K.2.1 0, 12, .inl f)) H1) (funext fun j => ?_)).mp hat
    by_cases hj : j = i
    · subst hj; simp [upd, zu]
    · simp [upd, zu, hj]
  · match k', i' with
    | 0, _ => rfl
    | 1, 0 | 1, 1 | 1, 2 | 1, 3 | 1, 4 | 1, 5 | 1, 6 | 1, 7 | 1, 8 | 1, 9 | 1, 10 | 1, 11 | 1, 12 => first | rfl | exact absurd ⟨rfl, rfl⟩ hn
    | 1, j + 13 => rfl
    | k + 2, _ => rfl
theorem zm_put_a_standing {i v : Nat} {x y : Int32} (h : zz_W K A ad (zm_c K ad th N G L) H) (hi : i < 12) (hx : x.toNatClampNeg = i) (hy : y = nI v) (hat : zz_at K (ad 1 6) (.inl (K.2.1 0, 12, .inl (upd (fun i => nI (N 5 i)) x.toNatClampNeg y))) H1) (ho : ∀ q : Nat, q ≠ ad 1 6 → H1[q]? = H[q]?) : zz_W K A ad (zm_c K ad th (zu N 5 i v) G L) H1 := by
  subst hy
  rw [hx] at hat
  refine h.put 1 6 rfl rfl ?_ ho (fun k' i' hn => ?_)
  · refine (congrArg (fun f => zz_at K (ad 1 6) (.inl (K.2.1 0, 12, .inl f)) H1) (funext fun j => ?_)).mp hat
    by_cases hj : j = i
    · subst hj; simp [upd, zu]
    · simp [upd, zu, hj]
  · match k', i' with
    | 0, _ => rfl
    | 1, 0 | 1, 1 | 1, 2 | 1, 3 | 1, 4 | 1, 5 | 1, 6 | 1, 7 | 1, 8 | 1, 9 | 1, 10 | 1, 11 | 1, 12 => first | rfl | exact absurd ⟨rfl, rfl⟩ hn
    | 1, j + 13 => rfl
    | k + 2, _ => rfl
theorem zm_put_a_seat {i v : Nat} {x y : Int32} (h : zz_W K A ad (zm_c K ad th N G L) H) (hi : i < 12) (hx : x.toNatClampNeg = i) (hy : y = nI v - 1) (hat : zz_at K (ad 1 7) (.inl (K.2.1 0, 12, .inl (upd (fun i => nI (N 6 i) - 1) x.toNatClampNeg y))) H1) (ho : ∀ q : Nat, q ≠ ad 1 7 → H1[q]? = H[q]?) : zz_W K A ad (zm_c K ad th (zu N 6 i v) G L) H1 := by
  subst hy
  rw [hx] at hat
  refine h.put 1 7 rfl rfl ?_ ho (fun k' i' hn => ?_)
  · refine (congrArg (fun f => zz_at K (ad 1 7) (.inl (K.2.1 0, 12, .inl f)) H1) (funext fun j => ?_)).mp hat
    by_cases hj : j = i
    · subst hj; simp [upd, zu]
    · simp [upd, zu, hj]
  · match k', i' with
    | 0, _ => rfl
    | 1, 0 | 1, 1 | 1, 2 | 1, 3 | 1, 4 | 1, 5 | 1, 6 | 1, 7 | 1, 8 | 1, 9 | 1, 10 | 1, 11 | 1, 12 => first | rfl | exact absurd ⟨rfl, rfl⟩ hn
    | 1, j + 13 => rfl
    | k + 2, _ => rfl
theorem zm_put_a_isIn {i v : Nat} {x y : Int32} (h : zz_W K A ad (zm_c K ad th N G L) H) (hi : i < 12) (hx : x.toNatClampNeg = i) (hy : y = nI v) (hat : zz_at K (ad 1 8) (.inl (K.2.1 1, 12, .inl (upd (fun i => nI (N 7 i)) x.toNatClampNeg y))) H1) (ho : ∀ q : Nat, q ≠ ad 1 8 → H1[q]? = H[q]?) : zz_W K A ad (zm_c K ad th (zu N 7 i v) G L) H1 := by
  subst hy
  rw [hx] at hat
  refine h.put 1 8 rfl rfl ?_ ho (fun k' i' hn => ?_)
  · refine (congrArg (fun f => zz_at K (ad 1 8) (.inl (K.2.1 1, 12, .inl f)) H1) (funext fun j => ?_)).mp hat
    by_cases hj : j = i
    · subst hj; simp [upd, zu]
    · simp [upd, zu, hj]
  · match k', i' with
    | 0, _ => rfl
    | 1, 0 | 1, 1 | 1, 2 | 1, 3 | 1, 4 | 1, 5 | 1, 6 | 1, 7 | 1, 8 | 1, 9 | 1, 10 | 1, 11 | 1, 12 => first | rfl | exact absurd ⟨rfl, rfl⟩ hn
    | 1, j + 13 => rfl
    | k + 2, _ => rfl
theorem zm_put_a_hasCome {i v : Nat} {x y : Int32} (h : zz_W K A ad (zm_c K ad th N G L) H) (hi : i < 12) (hx : x.toNatClampNeg = i) (hy : y = nI v) (hat : zz_at K (ad 1 9) (.inl (K.2.1 1, 12, .inl (upd (fun i => nI (N 8 i)) x.toNatClampNeg y))) H1) (ho : ∀ q : Nat, q ≠ ad 1 9 → H1[q]? = H[q]?) : zz_W K A ad (zm_c K ad th (zu N 8 i v) G L) H1 := by
  subst hy
  rw [hx] at hat
  refine h.put 1 9 rfl rfl ?_ ho (fun k' i' hn => ?_)
  · refine (congrArg (fun f => zz_at K (ad 1 9) (.inl (K.2.1 1, 12, .inl f)) H1) (funext fun j => ?_)).mp hat
    by_cases hj : j = i
    · subst hj; simp [upd, zu]
    · simp [upd, zu, hj]
  · match k', i' with
    | 0, _ => rfl
    | 1, 0 | 1, 1 | 1, 2 | 1, 3 | 1, 4 | 1, 5 | 1, 6 | 1, 7 | 1, 8 | 1, 9 | 1, 10 | 1, 11 | 1, 12 => first | rfl | exact absurd ⟨rfl, rfl⟩ hn
    | 1, j + 13 => rfl
    | k + 2, _ => rfl
theorem zm_put_a_booker {i v : Nat} {x y : Int32} (h : zz_W K A ad (zm_c K ad th N G L) H) (hi : i < 12) (hx : x.toNatClampNeg = i) (hy : y = nI v) (hat : zz_at K (ad 1 11) (.inl (K.2.1 0, 12, .inl (upd (fun i => nI (N 9 i)) x.toNatClampNeg y))) H1) (ho : ∀ q : Nat, q ≠ ad 1 11 → H1[q]? = H[q]?) : zz_W K A ad (zm_c K ad th (zu N 9 i v) G L) H1 := by
  subst hy
  rw [hx] at hat
  refine h.put 1 11 rfl rfl ?_ ho (fun k' i' hn => ?_)
  · refine (congrArg (fun f => zz_at K (ad 1 11) (.inl (K.2.1 0, 12, .inl f)) H1) (funext fun j => ?_)).mp hat
    by_cases hj : j = i
    · subst hj; simp [upd, zu]
    · simp [upd, zu, hj]
  · match k', i' with
    | 0, _ => rfl
    | 1, 0 | 1, 1 | 1, 2 | 1, 3 | 1, 4 | 1, 5 | 1, 6 | 1, 7 | 1, 8 | 1, 9 | 1, 10 | 1, 11 | 1, 12 => first | rfl | exact absurd ⟨rfl, rfl⟩ hn
    | 1, j + 13 => rfl
    | k + 2, _ => rfl
theorem zm_put_a_wanted {i v : Nat} {x y : Int32} (h : zz_W K A ad (zm_c K ad th N G L) H) (hi : i < 12) (hx : x.toNatClampNeg = i) (hy : y = nI v) (hat : zz_at K (ad 1 12) (.inl (K.2.1 0, 12, .inl (upd (fun i => nI (N 10 i)) x.toNatClampNeg y))) H1) (ho : ∀ q : Nat, q ≠ ad 1 12 → H1[q]? = H[q]?) : zz_W K A ad (zm_c K ad th (zu N 10 i v) G L) H1 := by
  subst hy
  rw [hx] at hat
  refine h.put 1 12 rfl rfl ?_ ho (fun k' i' hn => ?_)
  · refine (congrArg (fun f => zz_at K (ad 1 12) (.inl (K.2.1 0, 12, .inl f)) H1) (funext fun j => ?_)).mp hat
    by_cases hj : j = i
    · subst hj; simp [upd, zu]
    · simp [upd, zu, hj]
  · match k', i' with
    | 0, _ => rfl
    | 1, 0 | 1, 1 | 1, 2 | 1, 3 | 1, 4 | 1, 5 | 1, 6 | 1, 7 | 1, 8 | 1, 9 | 1, 10 | 1, 11 | 1, 12 => first | rfl | exact absurd ⟨rfl, rfl⟩ hn
    | 1, j + 13 => rfl
    | k + 2, _ => rfl
end ZM
end
section
/-! own layer: branches over small numbers and truths -/
def zz_bo (P : Prop) [Decidable P] : Int32 := if P then 1 else 0
theorem zz_bo_t {P : Prop} [Decidable P] (h : P) : zz_bo P = nI 1 := if_pos h
theorem zz_bo_f {P : Prop} [Decidable P] (h : ¬ P) : zz_bo P = nI 0 := if_neg h
theorem zz_bo_c {P Q : Prop} [Decidable P] [Decidable Q] (h : P ↔ Q) : zz_bo P = zz_bo Q := by
  by_cases q : Q
  · rw [zz_bo_t q, zz_bo_t (h.mpr q)]
  · rw [zz_bo_f q, zz_bo_f (fun z => q (h.mp z))]
theorem zz_bo_01 {P : Prop} [Decidable P] : zz_bo P = 0 ∨ zz_bo P = 1 := by
  by_cases q : P
  · exact Or.inr (if_pos q)
  · exact Or.inl (if_neg q)
theorem zz_n01 {n : Nat} (h : n ≤ 1) : nI n = 0 ∨ nI n = 1 := by
  have : n = 0 ∨ n = 1 := by omega
  rcases this with rfl | rfl
  · exact Or.inl rfl
  · exact Or.inr rfl
theorem zz_n0 {n : Nat} (h : n < 2 ^ 31) : nI n = 0 ↔ n = 0 := nI_eq (a := n) (b := 0) h (by decide)
theorem zz_s0 {x : Nat} (h : x < 2 ^ 31) : nI x - 1 = -1 ↔ x = 0 := by
  constructor
  · intro e
    refine (zz_n0 h).mp ?_
    have := congrArg (fun z => z + 1) e
    simpa using this
  · rintro rfl; decide
theorem zz_sf {x f : Nat} (h : x < 2 ^ 31) (hf : f + 1 < 2 ^ 31) : nI x - 1 = nI f ↔ x = f + 1 := by
  constructor
  · intro e
    refine (nI_eq h hf).mp ?_
    have := congrArg (fun z => z + 1) e
    rw [← nI_1]
    simpa using this
  · rintro rfl
    rw [← nI_1]; simp
theorem zz_ofI (n : Nat) (z : Int) (h : z = n) : Int32.ofInt z = nI n := by subst h; rfl
section ZI
variable {p : Program} {l : Launch} {e : Env} {R : Room} {s : State} {m : MethodId} {args : Array Value} {below : List Frame} {meth : Method} {c : Code} {H : Heap} {locs : List Loc} {cells slots : Nat} {Q : State → Prop}
variable {cc : ByteArray} {pc tgt : Nat} {ls : Array Slot} {rest : List Value} {off : Int} {a b : Nat}
theorem zz_con (n : Nat) {z : Int} (hx : p.tables.exec = Jvm.exec) (hb : c.code = cc) (hdg : decode cc pc = .ok (.iconst z, 1)) (hz : z = n) (k : W p l e R s m args below meth c H locs cells slots Q (F0 m (pc + 1) ls (.int (nI n) :: rest))) : W p l e R s m args below meth c H locs cells slots Q (F0 m pc ls rest) := lv_iconst hx hb hdg (zz_ofI n z hz) k
theorem zz_add (hx : p.tables.exec = Jvm.exec) (hb : c.code = cc) (hdg : decode cc pc = .ok (.iadd, 1)) (k : W p l e R s m args below meth c H locs cells slots Q (F0 m (pc + 1) ls (.int (nI (a + b)) :: rest))) : W p l e R s m args below meth c H locs cells slots Q (F0 m pc ls (.int (nI b) :: .int (nI a) :: rest)) := lv_iadd hx hb hdg (by rw [nI_add]; exact k)
theorem zz_sub (h : b ≤ a) (hx : p.tables.exec = Jvm.exec) (hb : c.code = cc) (hdg : decode cc pc = .ok (.isub, 1)) (k : W p l e R s m args below meth c H locs cells slots Q (F0 m (pc + 1) ls (.int (nI (a - b)) :: rest))) : W p l e R s m args below meth c H locs cells slots Q (F0 m pc ls (.int (nI b) :: .int (nI a) :: rest)) := lv_isub hx hb hdg (by rw [pk_sub h]; exact k)
theorem zz_mul (hx : p.tables.exec = Jvm.exec) (hb : c.code = cc) (hdg : decode cc pc = .ok (.imul, 1)) (k : W p l e R s m args below meth c H locs cells slots Q (F0 m (pc + 1) ls (.int (nI (a * b)) :: rest))) : W p l e R s m args below meth c H locs cells slots Q (F0 m pc ls (.int (nI b) :: .int (nI a) :: rest)) := lv_imul hx hb hdg (by rw [pk_mul]; exact k)
theorem zz_inc {i nL k : Nat} {lv lv' : List (Nat × Value)} (hx : p.tables.exec = Jvm.exec) (hb : c.code = cc) (hdg : decode cc pc = .ok (.iinc i 1, 3)) (h : lv_has ls nL lv) (hk : lv[k]? = some (i, .int (nI a))) (hn : i < nL) (hl : (i, Value.int (nI (a + 1))) :: lv.filter (fun q => !(q.1 == i) && !(q.1 + 1 == i && q.2.category == 2)) = lv')
    (kk : ∀ ls' : Array Slot, lv_has ls' nL lv' → W p l e R s m args below meth c H locs cells slots Q (F0 m (pc + 3) ls' rest)) : W p l e R s m args below meth c H locs cells slots Q (F0 m pc ls rest) := lv_iinc hx hb hdg h hk (by rw [← nI_1]; rfl) hn hl kk
theorem zz_ic_eq (ha : a < 2 ^ 31) (hb2 : b < 2 ^ 31) (hx : p.tables.exec = Jvm.exec) (hb : c.code = cc) (hdg : decode cc pc = .ok (.if_icmp .eq off, 3)) (ht : (pc : Int) + off = (tgt : Int)) (kt : a = b → W p l e R s m args below meth c H locs cells slots Q (F0 m tgt ls rest)) (kf : a ≠ b → W p l e R s m args below meth c H locs cells slots Q (F0 m (pc + 3) ls rest)) : W p l e R s m args below meth c H locs cells slots Q (F0 m pc ls (.int (nI b) :: .int (nI a) :: rest)) :=
  lv_icmp_eq hx hb hdg ht (fun h => kt ((nI_eq ha hb2).mp h)) (fun h => kf (fun q => h ((nI_eq ha hb2).mpr q)))
theorem zz_ic_ne (ha : a < 2 ^ 31) (hb2 : b < 2 ^ 31) (hx : p.tables.exec = Jvm.exec) (hb : c.code = cc) (hdg : decode cc pc = .ok (.if_icmp .ne off, 3)) (ht : (pc : Int) + off = (tgt : Int)) (kt : a ≠ b → W p l e R s m args below meth c H locs cells slots Q (F0 m tgt ls rest)) (kf : a = b → W p l e R s m args below meth c H locs cells slots Q (F0 m (pc + 3) ls rest)) : W p l e R s m args below meth c H locs cells slots Q (F0 m pc ls (.int (nI b) :: .int (nI a) :: rest)) :=
  lv_icmp_ne hx hb hdg ht (fun h => kt (fun q => h ((nI_eq ha hb2).mpr q))) (fun h => kf ((nI_eq ha hb2).mp h))
theorem zz_ic_lt (ha : a < 2 ^ 31) (hb2 : b < 2 ^ 31) (hx : p.tables.exec = Jvm.exec) (hb : c.code = cc) (hdg : decode cc pc = .ok (.if_icmp .lt off, 3)) (ht : (pc : Int) + off = (tgt : Int)) (kt : a < b → W p l e R s m args below meth c H locs cells slots Q (F0 m tgt ls rest)) (kf : b ≤ a → W p l e R s m args below meth c H locs cells slots Q (F0 m (pc + 3) ls rest)) : W p l e R s m args below meth c H locs cells slots Q (F0 m pc ls (.int (nI b) :: .int (nI a) :: rest)) :=
  lv_icmp_lt hx hb hdg ht (fun h => kt ((nI_ltI ha hb2).mp h)) (fun h => kf (Nat.le_of_not_lt (fun q => h ((nI_ltI ha hb2).mpr q))))
theorem zz_ic_ge (ha : a < 2 ^ 31) (hb2 : b < 2 ^ 31) (hx : p.tables.exec = Jvm.exec) (hb : c.code = cc) (hdg : decode cc pc = .ok (.if_icmp .ge off, 3)) (ht : (pc : Int) + off = (tgt : Int)) (kt : b ≤ a → W p l e R s m args below meth c H locs cells slots Q (F0 m tgt ls rest)) (kf : a < b → W p l e R s m args below meth c H locs cells slots Q (F0 m (pc + 3) ls rest)) : W p l e R s m args below meth c H locs cells slots Q (F0 m pc ls (.int (nI b) :: .int (nI a) :: rest)) :=
  lv_icmp_ge hx hb hdg ht (fun h => kt ((nI_leI hb2 ha).mp h)) (fun h => kf (Nat.lt_of_not_le (fun q => h ((nI_leI hb2 ha).mpr q))))
theorem zz_ic_gt (ha : a < 2 ^ 31) (hb2 : b < 2 ^ 31) (hx : p.tables.exec = Jvm.exec) (hb : c.code = cc) (hdg : decode cc pc = .ok (.if_icmp .gt off, 3)) (ht : (pc : Int) + off = (tgt : Int)) (kt : b < a → W p l e R s m args below meth c H locs cells slots Q (F0 m tgt ls rest)) (kf : a ≤ b → W p l e R s m args below meth c H locs cells slots Q (F0 m (pc + 3) ls rest)) : W p l e R s m args below meth c H locs cells slots Q (F0 m pc ls (.int (nI b) :: .int (nI a) :: rest)) :=
  lv_icmp_gt hx hb hdg ht (fun h => kt ((nI_ltI hb2 ha).mp h)) (fun h => kf (Nat.le_of_not_lt (fun q => h ((nI_ltI hb2 ha).mpr q))))
theorem zz_ic_le (ha : a < 2 ^ 31) (hb2 : b < 2 ^ 31) (hx : p.tables.exec = Jvm.exec) (hb : c.code = cc) (hdg : decode cc pc = .ok (.if_icmp .le off, 3)) (ht : (pc : Int) + off = (tgt : Int)) (kt : a ≤ b → W p l e R s m args below meth c H locs cells slots Q (F0 m tgt ls rest)) (kf : b < a → W p l e R s m args below meth c H locs cells slots Q (F0 m (pc + 3) ls rest)) : W p l e R s m args below meth c H locs cells slots Q (F0 m pc ls (.int (nI b) :: .int (nI a) :: rest)) :=
  lv_icmp_le hx hb hdg ht (fun h => kt ((nI_leI ha hb2).mp h)) (fun h => kf (Nat.lt_of_not_le (fun q => h ((nI_leI ha hb2).mpr q))))
theorem zz_if_eq (ha : a < 2 ^ 31) (hx : p.tables.exec = Jvm.exec) (hb : c.code = cc) (hdg : decode cc pc = .ok (.ifCond .eq off, 3)) (ht : (pc : Int) + off = (tgt : Int)) (kt : a = 0 → W p l e R s m args below meth c H locs cells slots Q (F0 m tgt ls rest)) (kf : a ≠ 0 → W p l e R s m args below meth c H locs cells slots Q (F0 m (pc + 3) ls rest)) : W p l e R s m args below meth c H locs cells slots Q (F0 m pc ls (.int (nI a) :: rest)) :=
  lv_if_eq hx hb hdg ht (fun h => kt ((zz_n0 ha).mp h)) (fun h => kf (fun q => h ((zz_n0 ha).mpr q)))
theorem zz_if_ne (ha : a < 2 ^ 31) (hx : p.tables.exec = Jvm.exec) (hb : c.code = cc) (hdg : decode cc pc = .ok (.ifCond .ne off, 3)) (ht : (pc : Int) + off = (tgt : Int)) (kt : a ≠ 0 → W p l e R s m args below meth c H locs cells slots Q (F0 m tgt ls rest)) (kf : a = 0 → W p l e R s m args below meth c H locs cells slots Q (F0 m (pc + 3) ls rest)) : W p l e R s m args below meth c H locs cells slots Q (F0 m pc ls (.int (nI a) :: rest)) :=
  lv_if_ne hx hb hdg ht (fun h => kt (fun q => h ((zz_n0 ha).mpr q))) (fun h => kf ((zz_n0 ha).mp h))
theorem zz_bi_eq {P : Prop} [Decidable P] (hx : p.tables.exec = Jvm.exec) (hb : c.code = cc) (hdg : decode cc pc = .ok (.ifCond .eq off, 3)) (ht : (pc : Int) + off = (tgt : Int)) (kt : ¬ P → W p l e R s m args below meth c H locs cells slots Q (F0 m tgt ls rest)) (kf : P → W p l e R s m args below meth c H locs cells slots Q (F0 m (pc + 3) ls rest)) : W p l e R s m args below meth c H locs cells slots Q (F0 m pc ls (.int (zz_bo P) :: rest)) :=
  lv_if_eq hx hb hdg ht (fun h => kt (fun q => by rw [zz_bo_t q] at h; exact absurd h (by decide))) (fun h => kf (by by_cases q : P; exact q; exact absurd (zz_bo_f q) h))
theorem zz_bi_ne {P : Prop} [Decidable P] (hx : p.tables.exec = Jvm.exec) (hb : c.code = cc) (hdg : decode cc pc = .ok (.ifCond .ne off, 3)) (ht : (pc : Int) + off = (tgt : Int)) (kt : P → W p l e R s m args below meth c H locs cells slots Q (F0 m tgt ls rest)) (kf : ¬ P → W p l e R s m args below meth c H locs cells slots Q (F0 m (pc + 3) ls rest)) : W p l e R s m args below meth c H locs cells slots Q (F0 m pc ls (.int (zz_bo P) :: rest)) :=
  lv_if_ne hx hb hdg ht (fun h => kt (by by_cases q : P; exact q; exact absurd (zz_bo_f q) h)) (fun h => kf (fun q => by rw [zz_bo_t q] at h; exact absurd h (by decide)))
end ZI
end
section
/-! own layer: a throw of an exception whose constructor calls its super by another index than 7. The two proofs follow BundleOwnThrow.ctorThrowS and Shelf42/F29a.chainSX of the library, and vx_throwS, with the index open. -/
def zz_chX (X : String) (ix : Nat) (rx : ByteArray) : List String → List Cond
  | [] => Bundle.passSAtoms X Bundle.tN ix rx
  | Y :: r => Bundle.passSAtoms X Y ix rx ++ Bundle.chainSAtoms Y r
theorem zz_chainSX {args : Array Value} {s : State} {pl : Platform} (hpl : pl.magicAccessors = ({} : Platform).magicAccessors) {top : MethodId} (htop : s.methodNamed? (Bundle.initS Bundle.tN) = some top)
    {ix : Nat} {rx : ByteArray} (x0 : decode rx 0 = .ok (.aload_n 0, 1)) (x1 : decode rx 1 = .ok (.aload_n 1, 1)) (x2 : decode rx 2 = .ok (.invokespecial ix, 3)) (x5 : decode rx 5 = .ok (.return_, 1)) :
    ∀ (names : List String) (X : String), Bundle.fit X = true → (∀ n ∈ names, Bundle.fit n = true) → (∀ c ∈ zz_chX X ix rx names, c.before args s = true) →
      ∃ (P1 : PassC) (Ps : List PassC), Ps.length = names.length ∧ P1.LinksS pl s ∧ (∀ P, P ∈ Ps → P.LinksS pl s) ∧ s.methodNamed? (Bundle.initS X) = some P1.m ∧
        P1.sup = firstOf top (Ps.map (·.toPassT)) ∧ PassesOn top (Ps.map (·.toPassT)) := by
  intro names
  cases names with
  | nil =>
    intro X hX _ h
    obtain ⟨P, L, hm, hs⟩ := PassC.ofS_atoms (args := args) (s := s) hpl (X := X) (Y := Bundle.tN) (Bundle.fit_spec hX).1 (by decide) x0 x1 x2 x5 h
    exact ⟨P, [], rfl, L, (fun _ hP => by cases hP), hm, Option.some.inj (hs.symm.trans htop), trivial⟩
  | cons Y r =>
    intro X hX hn h
    obtain ⟨P, L, hm, hs⟩ := PassC.ofS_atoms (args := args) (s := s) hpl (X := X) (Y := Y) (Bundle.fit_spec hX).1 (Bundle.fit_spec (hn Y List.mem_cons_self)).2 x0 x1 x2 x5
      (fun c hc => h c (by simp only [zz_chX, List.mem_append]; exact Or.inl hc))
    obtain ⟨P', Ps, hlen, L', hL, hm', hsup, hpass⟩ := Bundle.chainS (args := args) hpl htop r Y (hn Y List.mem_cons_self) (fun n hn' => hn n (List.mem_cons_of_mem _ hn')) (fun c hc => h c (by simp only [zz_chX, List.mem_append]; exact Or.inr hc))
    refine ⟨P, P' :: Ps, by simp [hlen], L, ?_, hm, Option.some.inj (hs.symm.trans hm'), hsup, hpass⟩
    intro Q hQ
    rcases List.mem_cons.mp hQ with rfl | hQ
    · exact L'
    · exact hL Q hQ
def zz_ownX (own : String) (ic : Nat) (X : String) (ix : Nat) (rx : ByteArray) (names : List String) : List Cond :=
  Bundle.throwableAtoms ++ Bundle.throwableSAtoms ++ zz_chX X ix rx names ++
  [.methodLink own ic (Bundle.initS X), .instantiable X 6, .castable X X, .selects X Bundle.tFill0 Bundle.tFill0, .selects X Bundle.tFill Bundle.tFill,
   .lays X Bundle.tN "cause" "Ljava/lang/Throwable;", .lays X Bundle.tN "stackTrace" Bundle.steD, .lays X Bundle.tN "suppressedExceptions" Bundle.listD, .lays X Bundle.tN "detailMessage" "Ljava/lang/String;",
   .isRef (.static Bundle.tN "UNASSIGNED_STACK" Bundle.steD), .isRef (.static Bundle.tN "SUPPRESSED_SENTINEL" Bundle.listD),
   .fieldLink Bundle.tN 198 Bundle.tN "backtrace" "Ljava/lang/Object;", .lays Bundle.tN Bundle.tN "backtrace" "Ljava/lang/Object;", .lays X Bundle.tN "backtrace" "Ljava/lang/Object;"]
section CtX
variable {p : Program} {l : Launch} {e : Env} {R : Room} {s : State} {m₀ : MethodId} {args : Array Value} {below : List Frame} {meth : Method} {c : Code} {W : State} {locs : List Loc} {cells slots : Nat}
set_option maxHeartbeats 1000000 in
theorem zz_ctorS (X : Stand p l e R s m₀ args below meth c W locs cells slots) (hexec : p.tables.exec = Jvm.exec) (htr : e.platform.stackTraces = false) {own cls : String} {names : List String} {ic : Nat} {ix : Nat} {rx : ByteArray} (x0 : decode rx 0 = .ok (.aload_n 0, 1)) (x1 : decode rx 1 = .ok (.aload_n 1, 1)) (x2 : decode rx 2 = .ok (.invokespecial ix, 3)) (x5 : decode rx 5 = .ok (.return_, 1)) 
    (hown : s.vm.findClass own = some m₀.cls) (hcls : Bundle.fit cls = true) (hnames : ∀ n ∈ names, Bundle.fit n = true)
    (h : ∀ a ∈ zz_ownX own ic cls ix rx names, a.before args s = true)
    (hlocs : ∀ x ∈ locs, ∀ cell, s.heap[x.base]? = some cell → cell.vm.isStatics = false)
    {a : Addr} {cX : ClassId} {kX : Class} (hfoundX : s.vm.findClass cls = some cX) (hkX : s.vm.classes[cX]? = some kX) (hcell : W.heap[a]? = some (freshCell cX kX)) (hnew : s.heap.size ≤ a)
    {msg : Value} (hmsg : msg.isRef = true)
    {g : JFrame} (hg : g.method = m₀) (hsize : g.locals.size = c.maxLocals) (hlocked : g.locked = none) (hentered : g.entered = []) {rest : List Value} (hstack : g.stack = msg :: .ref a :: .ref a :: rest)
    (hd6 : decode c.code g.pc = .ok (.invokespecial ic, 3)) (hd9 : decode c.code (g.pc + 3) = .ok (.athrow, 1)) (hout : ∀ x ∈ c.exceptionTable.toList, covers x (g.pc + 3) = false)
    (hRframes : names.length + 3 < R.frames) (hRlocals : 2 * g.monitorRoom + ((Value.ref a :: rest).map fun v => v.category).sum + (13 * (names.length + 1) + 42) ≤ R.locals) (hlocks : meth.locks = false := by first | assumption | exact BodyLoose.notSynchronized (by assumption) | exact Body.notSynchronized (by assumption)) :
    ∃ U : State, Steps p.tables e below (W.setTop g) U ∧ U.status = .running ∧ Ended U below (.threw a) ∧ s.WarmedH U.vm ∧ s.sameButNew ({ U with vm := s.vm } : State) locs cells slots ∧
      ∃ ce, U.heap[a]? = some ce ∧ Bundle.OwnCell args s cls a msg ce := by
  have howns : e.platform.frameOwnsMonitors = true := by rw [X.admits.platform]
  have hfin : e.platform.finalization = false := by rw [X.admits.platform]
  have hpl : e.platform.magicAccessors = ({} : Platform).magicAccessors := by rw [X.admits.platform]
  have a' : ∀ x, x ∈ zz_ownX own ic cls ix rx names → x.holds args s none s [] = true := fun x hx => h x hx
  obtain ⟨T, Z0, L, -, Y⟩ := ThrowableC.of_atoms (args := args) howns hfin hpl (fun x hx => h x (by simp [zz_ownX, hx]))
  obtain ⟨Z, M, LZ, LM, hnZ⟩ := Init0T.ofS_atoms (args := args) hpl L Y (fun x hx => h x (by simp [zz_ownX, hx]))
  obtain ⟨P1, Ps, hlen, L1, hL, hP1m, hlink1, hlink⟩ := zz_chainSX (args := args) hpl hnZ x0 x1 x2 x5 names cls hcls hnames (fun x hx => h x (by simp [zz_ownX, hx]))
              
  have hfound : s.vm.findClass cls = some P1.m.cls := findClass_of_methodNamed hP1m
  cases Option.some.inj (hfoundX.symm.trans hfound)
  obtain ⟨c1, kX', hc1, hk, hord, -, -, hn6⟩ := Cond.instantiable_spec (a' (.instantiable cls 6) (by simp [zz_ownX]))
  cases Option.some.inj (hc1.symm.trans hfound)
  cases Option.some.inj (hkX.symm.trans hk)
  have hsel0 : selectMethod e.platform s.vm P1.m.cls T.fill0 = .method T.fill0 := by
    obtain ⟨c2, r2, m2, q1, q2, q3, q4, -⟩ := Cond.selects_spec (a' (.selects cls Bundle.tFill0 Bundle.tFill0) (by simp [zz_ownX]))
    cases Option.some.inj (q1.symm.trans hfound)
    cases Option.some.inj (q2.symm.trans (State.methodFound?_of_named Y.fill0 (by decide)))
    cases Option.some.inj (q3.symm.trans Y.fill0)
    rw [Launch.admits_selectMethod X.admits]; exact q4
  have hselF : selectMethod e.platform s.vm P1.m.cls T.fill = .method T.fill := by
    obtain ⟨c2, r2, m2, q1, q2, q3, q4, -⟩ := Cond.selects_spec (a' (.selects cls Bundle.tFill Bundle.tFill) (by simp [zz_ownX]))
    cases Option.some.inj (q1.symm.trans hfound)
    cases Option.some.inj (q2.symm.trans (State.methodFound?_of_named Y.fill (by decide)))
    cases Option.some.inj (q3.symm.trans Y.fill)
    rw [Launch.admits_selectMethod X.admits]; exact q4
  obtain ⟨cellS0, hcS0, hiss⟩ := Y.statics
  obtain ⟨u0, hu0⟩ := Cond.staticRefV Y.unassigned L.unassignedStatic L.statics hcS0 hiss (a' (.isRef (.static Bundle.tN "UNASSIGNED_STACK" Bundle.steD)) (by simp [zz_ownX]))
  obtain ⟨sen, hsen⟩ := Cond.staticRefV Y.sentinel L.sentinelStatic L.statics hcS0 hiss (a' (.isRef (.static Bundle.tN "SUPPRESSED_SENTINEL" Bundle.listD)) (by simp [zz_ownX]))
  obtain ⟨ci198, i198, fB, hk198, hg198, ha198, hsB, -, hnB, htB, hffB⟩ := Cond.ownField (t := .object "java/lang/Object") Y.found L.cls (by decide +kernel) (a' (.fieldLink Bundle.tN 198 Bundle.tN "backtrace" "Ljava/lang/Object;") (by simp [zz_ownX])) (a' (.lays Bundle.tN Bundle.tN "backtrace" "Ljava/lang/Object;") (by simp [zz_ownX])) e.platform hpl
  obtain ⟨cellS, hcS', heS, -, hkeep⟩ := X.same.2.2.2.2.2 T.aS cellS0 hcS0
  have hcellS : W.heap[T.aS]? = some cellS := hcS'
  have hout' : ∀ i, (⟨T.aS, i⟩ : Loc) ∉ locs := fun i hmem => by
    have := hlocs _ hmem cellS0 hcS0
    rw [hiss] at this; cases this
  have hknownS : cellS.vm ≠ .unknown := by
    rw [heS]; intro hu
    rw [show cellS0.vm = .unknown from hu] at hiss
    cases hiss
  have hneS : T.aS ≠ a := Nat.ne_of_lt (Nat.lt_of_lt_of_le (Array.getElem?_eq_some_iff.mp hcS0).1 hnew)
  obtain ⟨iM, hffM⟩ := Y.msg
  obtain ⟨tyC, dC, hdC, hdnC⟩ := Cond.laysAt hfound hk Y.cause (a' (.lays cls Bundle.tN "cause" "Ljava/lang/Throwable;") (by simp [zz_ownX]))
  obtain ⟨tyS, dS, hdS, hdnS⟩ := Cond.laysAt hfound hk Y.stack (a' (.lays cls Bundle.tN "stackTrace" Bundle.steD) (by simp [zz_ownX]))
  obtain ⟨tyP, dP, hdP, hdnP⟩ := Cond.laysAt hfound hk Y.supp (a' (.lays cls Bundle.tN "suppressedExceptions" Bundle.listD) (by simp [zz_ownX]))
  obtain ⟨tyM, dM, hdM, hdnM⟩ := Cond.laysAt hfound hk hffM (a' (.lays cls Bundle.tN "detailMessage" "Ljava/lang/String;") (by simp [zz_ownX]))
  obtain ⟨tyB, dB, hdB, hdnB⟩ := Cond.laysAt hfound hk hffB (a' (.lays cls Bundle.tN "backtrace" "Ljava/lang/Object;") (by simp [zz_ownX]))
  have bC := Cond.laysApart hdB hdC hdnB hdnC (by rw [hnB, Y.causeName]; decide)
  have bS := Cond.laysApart hdB hdS hdnB hdnS (by rw [hnB, Y.stackName]; decide)
  have bP := Cond.laysApart hdB hdP hdnB hdnP (by rw [hnB, Y.suppName]; decide)
  have hskip : SkipFacts T e.platform s (fun u => u) u0 ((preparedCellV T.toThrowableT (freshCell P1.m.cls kX) a u0 sen).withEntry W.cur) :=
    ⟨{ ci198 := ci198, i198 := i198, fBack := fB }, ⟨hk198, hg198, ha198, hsB⟩, by
      have := fresh_default (c := P1.m.cls) tyB
      rw [htB] at this
      simpa [preparedCellV, Cell.setSlot, Cell.withEntry, Array.getElem?_setIfInBounds, bC, bS, bP, bC.symm, bS.symm, bP.symm, defaultValue] using this, fun _ _ => rfl⟩
                                     
  obtain ⟨tm, methC, cdC, kC, vm₁, hnC, -, -, -, -, -, -, -, hW₁, st1⟩ := Steps.initColdS (tb := p.tables) (e := e) (below := below) (s := s) (U := W) X.here hexec X.warmed hpl hown (t := Bundle.initS cls) rfl rfl (Bundle.fit_spec hcls).2
    (a' (.methodLink own ic (Bundle.initS cls)) (by simp [zz_ownX])) (h (.instanceMethod (Bundle.initS cls)) (by cases names <;> simp [zz_ownX, zz_chX, Bundle.passSAtoms])) (bytes := rx) (maxL := 2) (h (.code (Bundle.initS cls) rx 2 none) (by cases names <;> simp [zz_ownX, zz_chX, Bundle.passSAtoms]))
    (f := g) hg (a := a) (msg := msg) (rest := .ref a :: rest) hstack hd6
  cases Option.some.inj (hnC.symm.trans hP1m)
  have X₁ := X.noted hW₁
                                 
  obtain ⟨vm₂, X₂, st2⟩ := X₁.ctorMessageOffV hexec (g := { g with stack := .ref a :: rest }) hg hsize T L Z LZ M LM (P1 :: Ps)
    (fun P hP => by rcases List.mem_cons.mp hP with rfl | hP; exact L1; exact hL P hP) ⟨hlink1, hlink⟩ (u0 := u0) (sen := sen) (self := a) hmsg (cell := freshCell P1.m.cls kX) (cellS := cellS)
    hcell (fun _ => by simp) (by simp) rfl rfl hsel0 hselF hcellS hneS hknownS (by rw [hkeep _ (hout' _)]; exact hu0) (by rw [hkeep _ (hout' _)]; exact hsen)
    (Takes.of_laid hk hord tyC (by rw [Y.causeType]; rfl)) (Takes.of_laid hk hord tyS (by rw [Y.stackType]; exact fits_refV_array _ u0)) (Takes.of_laid hk hord tyP (by rw [Y.suppType]; exact fits_refV_object _ sen))
    (Takes.of_laid hk hord tyM (by rw [Y.msgType]; exact fits_refV_object _ ⟨msg, hmsg⟩)) Y.objLocals hskip htr [] hd6
    (by simp only [List.length_cons, hlen]; omega) (by simp only [List.length_cons, hlen]; exact hRlocals)
                                    
  obtain ⟨hwalk, hrun, hended, hWU, hsame⟩ := X₂.athrowLeaves hexec (g := { g with stack := .ref a :: rest, pc := g.pc + 3 }) hg hlocked hentered hout (a := a) (rest := rest) rfl hd9
  obtain ⟨c3, c4, hc3, hc4, hasg⟩ := Cond.castable_spec (a' (.castable cls cls) (by simp [zz_ownX]))
  cases Option.some.inj (hc3.symm.trans hfound)
  cases Option.some.inj (hc4.symm.trans hfound)
  have hlt : a < ((W.setVm vm₁).setVm vm₂).heap.size := (Array.getElem?_eq_some_iff.mp hcell).1
  have hU := heapAt_setCell_self (s := (W.setVm vm₁).setVm vm₂) (plainBareV T.toThrowableT (freshCell P1.m.cls kX) a u0 sen msg) hlt
  have hnM : T.fMsg.name = "detailMessage" := (State.fieldFound?_type hffM (t := .object "java/lang/String") (by decide +kernel)).1
  have nCS := Cond.laysApart hdC hdS hdnC hdnS (by rw [Y.causeName, Y.stackName]; decide)
  have nCP := Cond.laysApart hdC hdP hdnC hdnP (by rw [Y.causeName, Y.suppName]; decide)
  have nCM := Cond.laysApart hdC hdM hdnC hdnM (by rw [Y.causeName, hnM]; decide)
  have nSP := Cond.laysApart hdS hdP hdnS hdnP (by rw [Y.stackName, Y.suppName]; decide)
  have nSM := Cond.laysApart hdS hdM hdnS hdnM (by rw [Y.stackName, hnM]; decide)
  have nPM := Cond.laysApart hdP hdM hdnP hdnM (by rw [Y.suppName, hnM]; decide)
  have lC : T.fCause.slot < kX.instanceTypes.size := (Array.getElem?_eq_some_iff.mp tyC).1
  have lS : T.fStack.slot < kX.instanceTypes.size := (Array.getElem?_eq_some_iff.mp tyS).1
  have lP : T.fSupp.slot < kX.instanceTypes.size := (Array.getElem?_eq_some_iff.mp tyP).1
  have lM : T.fMsg.slot < kX.instanceTypes.size := (Array.getElem?_eq_some_iff.mp tyM).1
  have evU : ∀ o, (Term.static Bundle.tN "UNASSIGNED_STACK" Bundle.steD).eval args s o [] s = some u0.v := by
    intro o
    simp [Term.eval, State.fieldNamed?, Y.unassigned, L.unassignedStatic, L.statics, hcS0, hiss, hu0]
  have evS : ∀ o, (Term.static Bundle.tN "SUPPRESSED_SENTINEL" Bundle.listD).eval args s o [] s = some sen.v := by
    intro o
    simp [Term.eval, State.fieldNamed?, Y.sentinel, L.sentinelStatic, L.statics, hcS0, hiss, hsen]
  refine ⟨_, st1 _ (fun acts => ?_), hrun, hended, hWU, hsame.weaken (fun y hy hlt' => ?_) (Nat.le_refl _) (Nat.le_refl _), _, hU, ?_⟩
  · rw [doInvoke_state]
    exact st2 _ hwalk
  · rcases List.mem_append.mp hy with h1 | h1
    · exact h1
    · exfalso
      have hb : y.base = a := by
        simp only [List.mem_cons, List.not_mem_nil, or_false] at h1
        rcases h1 with rfl | rfl | rfl | rfl | rfl <;> rfl
      rw [hb] at hlt'
      exact Nat.not_lt.mpr hnew hlt'
  · exact { cls := hfound, self := hasg, monitor := rfl, hash := rfl, vm := rfl, size := by simp [plainBareV, preparedCellV, Cell.setSlot, hn6]
            cause := ⟨_, _, _, _, Y.cause, by simp [plainBareV, preparedCellV, Cell.setSlot, nCS.symm, nCP.symm, nCM.symm, lC]⟩
            stack := ⟨_, _, _, _, u0, Y.stack, by simp [plainBareV, preparedCellV, Cell.setSlot, nSM.symm, lS], evU⟩
            supp := ⟨_, _, _, _, sen, Y.supp, by simp [plainBareV, preparedCellV, Cell.setSlot, nSP, nPM.symm, lP], evS⟩
            msg := ⟨_, _, _, _, hffM, by simp [plainBareV, preparedCellV, Cell.setSlot, lM]⟩
            other := fun O f d c k i fd hf hy n1 n2 n3 n4 => by
              obtain ⟨ty, dd, hdd, hddn⟩ := Cond.laysAt hfound hk hf hy
              have m1 := Cond.laysApart hdd hdC hddn hdnC (by rw [Y.causeName]; exact n1)
              have m2 := Cond.laysApart hdd hdS hddn hdnS (by rw [Y.stackName]; exact n2)
              have m3 := Cond.laysApart hdd hdP hddn hdnP (by rw [Y.suppName]; exact n3)
              have m4 := Cond.laysApart hdd hdM hddn hdnM (by rw [hnM]; exact n4)
              have := fresh_default (c := P1.m.cls) ty
              simpa [plainBareV, preparedCellV, Cell.setSlot, Array.getElem?_setIfInBounds, m1, m2, m3, m4, m1.symm, m2.symm, m3.symm, m4.symm] using this }
end CtX
def zz_atX (own : String) (ic : Nat) (X : String) (ix : Nat) (rx : ByteArray) (names : List String) : List Cond := (zz_ownX own ic X ix rx names).filter vx_no
section EndsX
variable {p : Program} {l : Launch} {e : Env} {R : Room} {s : State} {m : MethodId} {args : Array Value} {below : List Frame} {meth : Method} {c : Code} {H : Heap} {locs : List Loc} {cells slots : Nat} {Q : State → Prop}
variable {mc ms : Nat} {free : Addr → Prop} {A0 A1 : Nat → Prop} {H0 : Heap} {a : Array Value} {ls : Array Slot} {st0 rest : List Value}
variable {Qc : Array Value → State → Outcome → State → Prop} {XC : String → State → State → Prop}
theorem zz_throwSX {cc : ByteArray} {pc : Nat} {ix : Nat} {rx : ByteArray} (x0 : decode rx 0 = .ok (.aload_n 0, 1)) (x1 : decode rx 1 = .ok (.aload_n 1, 1)) (x2 : decode rx 2 = .ok (.invokespecial ix, 3)) (x5 : decode rx 5 = .ok (.return_, 1)) (hexec : p.tables.exec = Jvm.exec) (hb : c.code = cc) (hl : l.stackTraces = false) {own cls text : String} {names : List String} {ik is ic mc ms sa : Nat} {A : Nat → Prop}
    (hown : s.vm.findClass own = some m.cls) (hcls : Bundle.fit cls = true) (hnames : ∀ n ∈ names, Bundle.fit n = true)
    (hk : (Cond.classLink own ik cls).before args s = true) (hini : (Cond.initialized cls).before args s = true) (hstr : vk_R own is text sa s) (hat : ∀ w ∈ zz_atX own ic cls ix rx names, w.before args s = true)
    (hgood : ∀ w ∈ Cond.classLink own ik cls :: Cond.initialized cls :: zz_atX own ic cls ix rx names, vx_ot w = true)
    (hU : vx_Zq Bundle.tN "UNASSIGNED_STACK" Bundle.steD A s s.heap) (hN : vx_Zq Bundle.tN "SUPPRESSED_SENTINEL" Bundle.listD A s s.heap) (hS : va_S A s.heap H locs) (hsize : ls.size = c.maxLocals)
    (d0 : decode cc pc = .ok (.new ik, 3)) (d3 : decode cc (pc + 3) = .ok (.dup, 1)) (d4 : decode cc (pc + 4) = .ok (.ldc is, 2)) (d6 : decode cc (pc + 6) = .ok (.invokespecial ic, 3)) (d9 : decode cc (pc + 9) = .ok (.athrow, 1))
    (hout : ∀ x ∈ c.exceptionTable.toList, covers x (pc + 9) = false)
    (hRframes : names.length + 3 < R.frames) (hRlocals : (rest.map fun v => v.category).sum + (13 * (names.length + 1) + 43) ≤ R.locals) (hRcells : cells + 1 ≤ R.cells) (hRslots : slots + 6 ≤ R.slots) (hlocks : meth.locks = false)
    (hx : ∀ t : State, s.vm.Alike t.vm → H.size ≤ t.heap.size → (∀ q : Nat, q < H.size → t.heap[q]? = H[q]?) → XC cls s t)
    (hf : ∀ z ∈ locs, free z.base) (hc : cells + 1 ≤ mc) (hs : slots + 6 ≤ ms) :
    W p l e R s m args below meth c H locs cells slots (vx_MQ below Qc XC args s mc ms free) (F0 m pc ls rest) := by
  intro T hT X
  have htr : e.platform.stackTraces = false := (show e.platform.stackTraces = l.stackTraces by rw [X.admits.platform]).trans hl
  have Y := vx_rebase X (R' := { frames := R.frames, locals := R.locals, cells := 1, slots := 6 }) (Nat.le_refl _) (Nat.le_refl _) hRcells hRslots
  obtain ⟨s', hA⟩ : ∃ z, z = (T.setVm s.vm).setFrames (.invoking m args :: below) := ⟨_, rfl⟩
  rw [← hA] at Y
  have hvm : s'.vm = s.vm := by rw [hA]; rfl
  have hhp : s'.heap = H := by rw [hA]; exact hT
  have hW0 : s.WarmedH s'.vm := by rw [hvm]; exact State.WarmedH.refl s
  have hat' : ∀ w ∈ zz_atX own ic cls ix rx names, w.before args s' = true := fun w hw => vx_ot_at hW0 hvm.symm (hgood w (List.mem_cons_of_mem _ (List.mem_cons_of_mem _ hw))) (hat w hw)
  have hk' : (Cond.classLink own ik cls).before args s' = true := vx_ot_at hW0 hvm.symm (hgood _ List.mem_cons_self) hk
  have hini' : (Cond.initialized cls).before args s' = true := vx_ot_at hW0 hvm.symm (hgood _ (List.mem_cons_of_mem _ List.mem_cons_self)) hini
  have hU' : vx_Zq Bundle.tN "UNASSIGNED_STACK" Bundle.steD A s' s'.heap := by rw [hhp]; exact vx_Zq.moved hW0.alike (hU.kept hS.2.1)
  have hN' : vx_Zq Bundle.tN "SUPPRESSED_SENTINEL" Bundle.listD A s' s'.heap := by rw [hhp]; exact vx_Zq.moved hW0.alike (hN.kept hS.2.1)
  have h : ∀ w ∈ zz_ownX own ic cls ix rx names, w.before args s' = true := vx_own hat' (vx_isRefq hU'.1) (vx_isRefq hN'.1) hU'.2.word hN'.2.word
  have hown' : s'.vm.findClass own = some m.cls := by rw [hvm]; exact hown
  have hins : (Cond.instantiable cls 6).before args s' = true := h _ (by simp [zz_ownX])
  obtain ⟨vm₁, cX, kX, hfX, hkX, -, -, X₁, st1⟩ := Y.newCold hexec (own := own) (C := cls) (index := ik) (n := 6) hown' hk' hins hini'
    (g := F0 m pc ls rest) rfl (by rw [hb]; exact d0) (Nat.le_refl _) (Nat.le_refl _)
  generalize hT1 : (T.setVm vm₁).pushCell { cls := cX, slots := kX.instanceTypes.map defaultValue, vm := .none } = T1 at X₁ st1
  have hcat : (Value.ref T.heap.size).category = 1 := rfl
  have hcellA : T1.heap[T.heap.size]? = some (freshCell cX kX) := by rw [← hT1]; exact State.heap_pushCell_size _ _
  have d3' : decode c.code (pc + 3) = .ok (.dup, 1) := by rw [hb]; exact d3
  have d4' : decode c.code (pc + 4) = .ok (.ldc is, 2) := by rw [hb]; exact d4
  have hstr' : vk_R own is text sa s' := vk_R.warm hW0 hstr
  obtain ⟨U, hsteps, hrun, hend, hW, hsame, ce, hce, hO⟩ := zz_ctorS X₁ hexec htr x0 x1 x2 x5 (own := own) (cls := cls) (names := names) (ic := ic) hown' hcls hnames h (fun x hx => nomatch hx) hfX hkX hcellA (by rw [hhp, hT]; exact Nat.le_refl _) (msg := .ref sa) rfl
    (g := { method := m, pc := pc + 6, locals := ls, stack := .ref sa :: .ref T.heap.size :: .ref T.heap.size :: rest, locked := none }) rfl hsize rfl rfl (rest := rest) rfl
    (by rw [hb]; exact d6) (by rw [hb]; exact d9) hout hRframes (by simp only [List.map_cons, List.sum_cons, hcat]; omega) hlocks
  obtain ⟨f1, f2⟩ := vx_frame hsame
  rw [hhp] at f1 f2
  have hWs : s.WarmedH U.vm := State.WarmedH.trans hW0 hW
  have hcl : s.vm.findClass cls = some ce.cls := by
    have h9 := hO.cls
    rw [hvm] at h9
    exact h9
  have hall : s.sameButNew ({ U with vm := s.vm } : State) locs mc ms := by
    subst hA
    obtain ⟨e1, e2⟩ := hsame
    rw [State.setFrames_setFrames] at e1
    have h2 : (T.setVm s.vm).sameButNew ({ U with vm := s.vm } : State) [] (0 + 1) (0 + 6) := ⟨e1, e2⟩
    have h3 := X.same.trans h2
    rw [List.append_nil] at h3
    exact h3.mono hc hs
  refine ⟨U, ?_, .threw T.heap.size, hrun, hend, Or.inr ⟨T.heap.size, rfl, cls, ce, locs, hx U hWs.alike f1 (fun q hq => f2 q hq (fun z hz => nomatch hz)), hce, hO.vm, hcl, hWs, hall, hf⟩⟩
  refine st1 _ ?_
  show Steps p.tables e below (T1.setTop { method := m, pc := pc + 3, locals := ls, stack := .ref T.heap.size :: rest, locked := none }) _
  jvm_step X₁.here [X₁.here.top, hexec, d3', Value.category]
  exact X₁.ldcString hexec (own := own) (text := text) (index := is) (a := sa) hown' hstr'.1 hstr'.2
    (g := { method := m, pc := pc + 4, locals := ls, stack := .ref T.heap.size :: .ref T.heap.size :: rest, locked := none }) rfl d4' _ hsteps
end EndsX
end
section
/-! own layer: words of the fields, throws, the invariant -/
theorem zf_X0 : ∀ w ∈ u_ws RX0 TX0 7, w ∈ zz_BW := fun w hw => List.mem_filter.mpr ⟨List.mem_append_right _ ((show ∀ w ∈ u_ws RX0 TX0 7, w ∈ tables_1 by decide +kernel) w hw), (show ∀ w ∈ u_ws RX0 TX0 7, goodWord w = true by decide +kernel) w hw⟩
theorem zf_X1 : ∀ w ∈ u_ws RX1 TX1 7, w ∈ zz_BW := fun w hw => List.mem_filter.mpr ⟨List.mem_append_right _ ((show ∀ w ∈ u_ws RX1 TX1 7, w ∈ tables_1 by decide +kernel) w hw), (show ∀ w ∈ u_ws RX1 TX1 7, goodWord w = true by decide +kernel) w hw⟩
theorem zf_X2 : ∀ w ∈ u_ws RX2 TX2 8, w ∈ zz_BW := fun w hw => List.mem_filter.mpr ⟨List.mem_append_right _ ((show ∀ w ∈ u_ws RX2 TX2 8, w ∈ tables_1 by decide +kernel) w hw), (show ∀ w ∈ u_ws RX2 TX2 8, goodWord w = true by decide +kernel) w hw⟩
theorem zf_X3 : ∀ w ∈ u_ws RX3 TX3 22, w ∈ zz_BW := fun w hw => List.mem_filter.mpr ⟨List.mem_append_right _ ((show ∀ w ∈ u_ws RX3 TX3 22, w ∈ tables_1 by decide +kernel) w hw), (show ∀ w ∈ u_ws RX3 TX3 22, goodWord w = true by decide +kernel) w hw⟩
theorem zf_Jx4a65c : ∀ w ∈ u_ws RJx4a65c TJx4a65c 3, w ∈ zz_BW := fun w hw => List.mem_filter.mpr ⟨List.mem_append_right _ ((show ∀ w ∈ u_ws RJx4a65c TJx4a65c 3, w ∈ tables_1 by decide +kernel) w hw), (show ∀ w ∈ u_ws RJx4a65c TJx4a65c 3, goodWord w = true by decide +kernel) w hw⟩
abbrev zz_sup : List String := ["java/lang/RuntimeException", "java/lang/Exception"]
def zz_Hat (ic : Nat) (cls : String) : Prop := ∃ (ix : Nat) (rx : ByteArray), (decode rx 0 = .ok (.aload_n 0, 1) ∧ decode rx 1 = .ok (.aload_n 1, 1) ∧ decode rx 2 = .ok (.invokespecial ix, 3) ∧ decode rx 5 = .ok (.return_, 1)) ∧ Bundle.fit cls = true ∧ (∀ w ∈ zz_atX RX2 ic cls ix rx zz_sup, vx_ot w = true) ∧ ∀ w ∈ zz_atX RX2 ic cls ix rx zz_sup, (w ∈ tables_1 ∨ w ∈ k2_sels lw_privs) ∧ goodWord w = true ∨ w ∈ zz_ng ∧ w.onTables = true
theorem zx_45 : zz_Hat 45 "java/lang/IllegalArgumentException" := ⟨7, Bundle.six, ⟨by decide +kernel, by decide +kernel, by decide +kernel, by decide +kernel⟩, by decide +kernel, by decide +kernel, by decide +kernel⟩
theorem zx_60 : zz_Hat 60 "java/lang/IllegalStateException" := ⟨7, Bundle.six, ⟨by decide +kernel, by decide +kernel, by decide +kernel, by decide +kernel⟩, by decide +kernel, by decide +kernel, by decide +kernel⟩
theorem zx_128 : zz_Hat 128 "java/lang/IndexOutOfBoundsException" := ⟨7, Bundle.six, ⟨by decide +kernel, by decide +kernel, by decide +kernel, by decide +kernel⟩, by decide +kernel, by decide +kernel, by decide +kernel⟩
theorem zx_116 : zz_Hat 116 "java/util/NoSuchElementException" := ⟨13, prog_27_method_4_code, ⟨by decide +kernel, by decide +kernel, by decide +kernel, by decide +kernel⟩, by decide +kernel, by decide +kernel, by decide +kernel⟩
theorem zx_111 : zz_Hat 111 "java/lang/UnsupportedOperationException" := ⟨7, Bundle.six, ⟨by decide +kernel, by decide +kernel, by decide +kernel, by decide +kernel⟩, by decide +kernel, by decide +kernel, by decide +kernel⟩
theorem zx_221 : zz_Hat 221 "java/lang/ArithmeticException" := ⟨7, Bundle.six, ⟨by decide +kernel, by decide +kernel, by decide +kernel, by decide +kernel⟩, by decide +kernel, by decide +kernel, by decide +kernel⟩
section ZT
variable {p : Program} {l : Launch} {e : Env} {R : Room} {s : State} {m : MethodId} {args : Array Value} {below : List Frame} {meth : Method} {c : Code} {H : Heap} {locs : List Loc} {cells slots : Nat}
variable {cc : ByteArray} {pc : Nat} {ls : Array Slot} {rest : List Value} {K : zz_G} {A B : Nat → Prop} {mc ms nL : Nat}
theorem zz_throw {ik is ic : Nat} {cls text : String} {Q : Option Value → Heap → Heap → Prop} {X : String → Heap → Heap → Prop} (hx : p.tables.exec = Jvm.exec) (hb : c.code = cc) (hfl : l.stackTraces = false) (hown : s.vm.findClass RX2 = some m.cls) (hts : ∀ w ∈ zz_BW, w.before args s = true) (hE : zz_E K A s s.heap) (hh : zz_Hat ic cls) (hk : Cond.classLink RX2 ik cls ∈ zz_BW) (hini : Cond.initialized cls ∈ zz_BW) (hstr : ((is, text) : Nat × String) ∈ zz_str) (hS : va_S B s.heap H locs) (hBn : ∀ q, B q → zz_no q) (hsize : ls.size = nL) (hml : c.maxLocals = nL)
    (d0 : decode cc pc = .ok (.new ik, 3)) (d3 : decode cc (pc + 3) = .ok (.dup, 1)) (d4 : decode cc (pc + 4) = .ok (.ldc is, 2)) (d6 : decode cc (pc + 6) = .ok (.invokespecial ic, 3)) (d9 : decode cc (pc + 9) = .ok (.athrow, 1)) (htab : ∀ x ∈ c.exceptionTable.toList, False)
    (hRf : 5 < R.frames) (hRl : (rest.map fun v => v.category).sum + 82 ≤ R.locals) (hRc : cells + 1 ≤ R.cells) (hRs : slots + 6 ≤ R.slots) (hlocks : meth.locks = false) (hq : ∀ H9 : Heap, zz_fr zz_no s.heap H9 → X cls s.heap H9) (hc : cells + 1 ≤ mc) (hs : slots + 6 ≤ ms) {Bm : Nat → Prop} :
    W p l e R s m args below meth c H locs cells slots (vx_MQ below (zz_Qc Q Bm) (zz_XC X) args s mc ms Bm) (F0 m pc ls rest) := by
  obtain ⟨⟨h1, h2, h3, h4, h5, h6, h7⟩, hU, hN, -⟩ := hE
  obtain ⟨sa, hsa⟩ := h6 _ hstr
  obtain ⟨ix, rx, ⟨x0, x1, x2, x5⟩, hcls, hot, hat⟩ := hh
  have hno : ∀ {q : Nat}, ¬ B q := fun {q} h => hBn q h
  refine zz_throwSX (A := A) (names := zz_sup) (ik := ik) (is := is) (ic := ic) x0 x1 x2 x5 hx hb hfl hown hcls (by decide +kernel) (hts _ hk) (hts _ hini) hsa (fun w hw => ?_) (fun w hw => ?_) hU hN (zz_Smono hS (fun q h => (hno h).elim)) (hsize.trans hml.symm) d0 d3 d4 d6 d9 (fun x hx => (htab x hx).elim) hRf hRl hRc hRs hlocks (fun t ht hz hk2 => ?_) (fun z hz => (hno (hS.2.2 z hz)).elim) hc hs
  · rcases hat w hw with ⟨h | h, hg⟩ | ⟨h, ho⟩
    · exact hts w (List.mem_filter.mpr ⟨List.mem_append_right _ h, hg⟩)
    · exact hts w (List.mem_filter.mpr ⟨List.mem_append_left _ h, hg⟩)
    · exact va_Nw.use ho (h2 w h)
  · rcases List.mem_cons.mp hw with rfl | hw
    · rfl
    · rcases List.mem_cons.mp hw with rfl | hw
      · rfl
      · exact hot w hw
  · have hf : zz_fr zz_no s.heap t.heap := ⟨Nat.le_trans hS.1 hz, fun q h8 h9 => (hk2 q (Nat.lt_of_lt_of_le h8 hS.1)).trans (hS.2.1 q h8 hno)⟩
    exact ⟨hq _ hf, hf⟩
end ZT
/-- the number of i below n with p i -/
def zc (p : Nat → Prop) [DecidablePred p] : Nat → Nat
  | 0 => 0
  | n + 1 => zc p n + (if p n then 1 else 0)
def zi (N : Nat → Nat → Nat) : Prop :=
  ((N 0 0 ≤ 6 ∧ N 0 1 ≤ 12 ∧ N 0 2 ≤ 12 ∧ N 12 0 ≤ 365 ∧ N 12 1 ≤ 12 * N 12 0) ∧ (∀ k i, N k i < 2 ^ 31)) ∧
  ((∀ q, q < N 0 1 → N 6 q ≤ N 0 0) ∧ (∀ q, q < N 0 1 → N 11 q ≤ N 0 0)) ∧
  ((∀ k, k < N 0 2 → N 9 k < N 0 1 ∧ N 10 k < N 0 0 ∧ N 11 (N 9 k) = N 10 k + 1) ∧ (∀ q, q < N 0 1 → N 11 q ≠ 0 → ∃ k, k < N 0 2 ∧ N 9 k = q) ∧ (∀ k k', k < N 0 2 → k' < N 0 2 → N 9 k = N 9 k' → k = k')) ∧
  ((∀ f, f < N 0 0 → 1 ≤ N 1 f ∧ N 1 f ≤ 12 ∧ N 2 f ≤ 99) ∧ (∀ i, N 3 i ≤ 1 ∧ N 7 i ≤ 1 ∧ N 8 i ≤ 1 ∧ N 5 i ≤ 10 ∧ N 4 i ≤ 3)) ∧
  ((∀ q, q < N 0 1 → N 6 q = 0 → N 7 q = 0) ∧ (∀ q f, q < N 0 1 → N 6 q = f + 1 → N 3 f = 1) ∧ (∀ f, f < N 0 0 → zc (fun q => N 6 q = f + 1) (N 0 1) ≤ N 1 f))
section ZV
variable {N : Nat → Nat → Nat}
theorem zi.f (h : zi N) : N 0 0 ≤ 6 := h.1.1.1
theorem zi.p (h : zi N) : N 0 1 ≤ 12 := h.1.1.2.1
theorem zi.b (h : zi N) : N 0 2 ≤ 12 := h.1.1.2.2.1
theorem zi.d (h : zi N) : N 12 0 ≤ 365 := h.1.1.2.2.2.1
theorem zi.n (h : zi N) : N 12 1 ≤ 12 * N 12 0 := h.1.1.2.2.2.2
theorem zi.B (h : zi N) : ∀ k i, N k i < 2 ^ 31 := h.1.2
theorem zi.st (h : zi N) : ∀ q, q < N 0 1 → N 6 q ≤ N 0 0 := h.2.1.1
theorem zi.wt (h : zi N) : ∀ q, q < N 0 1 → N 11 q ≤ N 0 0 := h.2.1.2
theorem zi.bk (h : zi N) : ∀ k, k < N 0 2 → N 9 k < N 0 1 := fun k hk => (h.2.2.1.1 k hk).1
theorem zi.bf (h : zi N) : ∀ k, k < N 0 2 → N 10 k < N 0 0 := fun k hk => (h.2.2.1.1 k hk).2.1
theorem zi.bw (h : zi N) : ∀ k, k < N 0 2 → N 11 (N 9 k) = N 10 k + 1 := fun k hk => (h.2.2.1.1 k hk).2.2
theorem zi.on (h : zi N) : ∀ q, q < N 0 1 → N 11 q ≠ 0 → ∃ k, k < N 0 2 ∧ N 9 k = q := h.2.2.1.2.1
theorem zi.ij (h : zi N) : ∀ k k', k < N 0 2 → k' < N 0 2 → N 9 k = N 9 k' → k = k' := h.2.2.1.2.2
theorem zi.fl (h : zi N) : ∀ f, f < N 0 0 → 1 ≤ N 1 f ∧ N 1 f ≤ 12 ∧ N 2 f ≤ 99 := h.2.2.2.1.1
theorem zi.sm (h : zi N) : ∀ i, N 3 i ≤ 1 ∧ N 7 i ≤ 1 ∧ N 8 i ≤ 1 ∧ N 5 i ≤ 10 ∧ N 4 i ≤ 3 := h.2.2.2.1.2
theorem zi.ns (h : zi N) : ∀ q, q < N 0 1 → N 6 q = 0 → N 7 q = 0 := h.2.2.2.2.1
theorem zi.so (h : zi N) : ∀ q f, q < N 0 1 → N 6 q = f + 1 → N 3 f = 1 := h.2.2.2.2.2.1
theorem zi.sc (h : zi N) : ∀ f, f < N 0 0 → zc (fun q => N 6 q = f + 1) (N 0 1) ≤ N 1 f := h.2.2.2.2.2.2
end ZV
/-- the lists of the class: their rows are long enough; an empty one is the machine's own -/
def zk (K : zz_G) (ad : Nat → Nat → Nat) (cap : Nat → Nat) (N : Nat → Nat → Nat) : Prop := ∀ t, t < 3 → N 0 t ≤ cap t ∧ cap t ≤ 40 ∧ (cap t = 0 → ad 2 t = K.2.2 0)
end

section
-- ===== PART A: goes FIRST, ahead of the names: the tables' words, and 'selects' of the private methods out of them =====
/-- a private method of a class that the tables say can be made, by its rows of tables_1 -/
def lw_okq (q : MethodName × Nat) : Prop := (q.1.cls ≠ "java/lang/invoke/MethodHandle" ∧ q.1.cls ≠ "java/lang/invoke/VarHandle") ∧ Cond.instantiable q.1.cls q.2 ∈ tables_1 ∧ Cond.privateMethod q.1 ∈ tables_1 ∧ Cond.instanceMethod q.1 ∈ tables_1
theorem lw_p0 : lw_okq (⟨"WheelHours", "cardOf", "(I)LWheelHours$Card;"⟩, 10) := ⟨⟨by decide +kernel, by decide +kernel⟩, List.mem_of_getElem? (i := 16) (by decide +kernel), List.mem_of_getElem? (i := 384) (by decide +kernel), List.mem_of_getElem? (i := 385) (by decide +kernel)⟩
theorem lw_p1 : lw_okq (⟨"WheelHours", "tripsOf", "(I)LWheelHours$Trips;"⟩, 10) := ⟨⟨by decide +kernel, by decide +kernel⟩, List.mem_of_getElem? (i := 16) (by decide +kernel), List.mem_of_getElem? (i := 416) (by decide +kernel), List.mem_of_getElem? (i := 417) (by decide +kernel)⟩
theorem lw_p2 : lw_okq (⟨"WheelHours", "findDays", "(LWheelHours$Card;Z)V"⟩, 10) := ⟨⟨by decide +kernel, by decide +kernel⟩, List.mem_of_getElem? (i := 16) (by decide +kernel), List.mem_of_getElem? (i := 429) (by decide +kernel), List.mem_of_getElem? (i := 430) (by decide +kernel)⟩
theorem lw_p3 : lw_okq (⟨"WheelHours$Card", "isRest", "(IZ)Z"⟩, 4) := ⟨⟨by decide +kernel, by decide +kernel⟩, List.mem_of_getElem? (i := 67) (by decide +kernel), List.mem_of_getElem? (i := 442) (by decide +kernel), List.mem_of_getElem? (i := 443) (by decide +kernel)⟩
theorem lw_p4 : lw_okq (⟨"WheelHours$Reading", "addRest", "(I)V"⟩, 9) := ⟨⟨by decide +kernel, by decide +kernel⟩, List.mem_of_getElem? (i := 114) (by decide +kernel), List.mem_of_getElem? (i := 447) (by decide +kernel), List.mem_of_getElem? (i := 448) (by decide +kernel)⟩
theorem lw_p5 : lw_okq (⟨"WheelHours$Planner", "findMarks", "()V"⟩, 12) := ⟨⟨by decide +kernel, by decide +kernel⟩, List.mem_of_getElem? (i := 212) (by decide +kernel), List.mem_of_getElem? (i := 455) (by decide +kernel), List.mem_of_getElem? (i := 456) (by decide +kernel)⟩
theorem lw_p6 : lw_okq (⟨"WheelHours$Planner", "addMark", "(IIIIJ)V"⟩, 12) := ⟨⟨by decide +kernel, by decide +kernel⟩, List.mem_of_getElem? (i := 212) (by decide +kernel), List.mem_of_getElem? (i := 459) (by decide +kernel), List.mem_of_getElem? (i := 460) (by decide +kernel)⟩
theorem lw_p7 : lw_okq (⟨"WheelHours$Planner", "addRest", "(IIIJ)V"⟩, 12) := ⟨⟨by decide +kernel, by decide +kernel⟩, List.mem_of_getElem? (i := 212) (by decide +kernel), List.mem_of_getElem? (i := 467) (by decide +kernel), List.mem_of_getElem? (i := 468) (by decide +kernel)⟩
theorem lw_p8 : lw_okq (⟨"WheelHours$Planner", "makeRoom", "()V"⟩, 12) := ⟨⟨by decide +kernel, by decide +kernel⟩, List.mem_of_getElem? (i := 212) (by decide +kernel), List.mem_of_getElem? (i := 474) (by decide +kernel), List.mem_of_getElem? (i := 475) (by decide +kernel)⟩
theorem lw_p9 : lw_okq (⟨"WheelHours$Planner", "placeOf", "(III)I"⟩, 12) := ⟨⟨by decide +kernel, by decide +kernel⟩, List.mem_of_getElem? (i := 212) (by decide +kernel), List.mem_of_getElem? (i := 478) (by decide +kernel), List.mem_of_getElem? (i := 479) (by decide +kernel)⟩
theorem lw_p10 : lw_okq (⟨"WheelHours$Planner", "findLeast", "(I)V"⟩, 12) := ⟨⟨by decide +kernel, by decide +kernel⟩, List.mem_of_getElem? (i := 212) (by decide +kernel), List.mem_of_getElem? (i := 485) (by decide +kernel), List.mem_of_getElem? (i := 486) (by decide +kernel)⟩
theorem lw_p11 : lw_okq (⟨"WheelHours$Planner", "lastEnd", "(I)I"⟩, 12) := ⟨⟨by decide +kernel, by decide +kernel⟩, List.mem_of_getElem? (i := 212) (by decide +kernel), List.mem_of_getElem? (i := 490) (by decide +kernel), List.mem_of_getElem? (i := 491) (by decide +kernel)⟩
theorem lw_p12 : lw_okq (⟨"WheelHours$Planner", "offer", "(III)V"⟩, 12) := ⟨⟨by decide +kernel, by decide +kernel⟩, List.mem_of_getElem? (i := 212) (by decide +kernel), List.mem_of_getElem? (i := 494) (by decide +kernel), List.mem_of_getElem? (i := 495) (by decide +kernel)⟩
theorem lw_p13 : lw_okq (⟨"WheelHours$Planner", "priceOf", "(III)J"⟩, 12) := ⟨⟨by decide +kernel, by decide +kernel⟩, List.mem_of_getElem? (i := 212) (by decide +kernel), List.mem_of_getElem? (i := 498) (by decide +kernel), List.mem_of_getElem? (i := 499) (by decide +kernel)⟩
theorem lw_p14 : lw_okq (⟨"WheelHours$Planner", "overOf", "(III)I"⟩, 12) := ⟨⟨by decide +kernel, by decide +kernel⟩, List.mem_of_getElem? (i := 212) (by decide +kernel), List.mem_of_getElem? (i := 502) (by decide +kernel), List.mem_of_getElem? (i := 503) (by decide +kernel)⟩
theorem lw_p15 : lw_okq (⟨"WheelHours$Planner", "lateOf", "(II)I"⟩, 12) := ⟨⟨by decide +kernel, by decide +kernel⟩, List.mem_of_getElem? (i := 212) (by decide +kernel), List.mem_of_getElem? (i := 506) (by decide +kernel), List.mem_of_getElem? (i := 507) (by decide +kernel)⟩
def lw_privs_1 : List (MethodName × Nat) := [(⟨"WheelHours", "cardOf", "(I)LWheelHours$Card;"⟩, 10), (⟨"WheelHours", "tripsOf", "(I)LWheelHours$Trips;"⟩, 10), (⟨"WheelHours", "findDays", "(LWheelHours$Card;Z)V"⟩, 10), (⟨"WheelHours$Card", "isRest", "(IZ)Z"⟩, 4), (⟨"WheelHours$Reading", "addRest", "(I)V"⟩, 9), (⟨"WheelHours$Planner", "findMarks", "()V"⟩, 12), (⟨"WheelHours$Planner", "addMark", "(IIIIJ)V"⟩, 12), (⟨"WheelHours$Planner", "addRest", "(IIIJ)V"⟩, 12), (⟨"WheelHours$Planner", "makeRoom", "()V"⟩, 12), (⟨"WheelHours$Planner", "placeOf", "(III)I"⟩, 12), (⟨"WheelHours$Planner", "findLeast", "(I)V"⟩, 12), (⟨"WheelHours$Planner", "lastEnd", "(I)I"⟩, 12), (⟨"WheelHours$Planner", "offer", "(III)V"⟩, 12), (⟨"WheelHours$Planner", "priceOf", "(III)J"⟩, 12), (⟨"WheelHours$Planner", "overOf", "(III)I"⟩, 12), (⟨"WheelHours$Planner", "lateOf", "(II)I"⟩, 12)]
theorem lw_r1 : ∀ q ∈ lw_privs_1, lw_okq q := List.forall_mem_cons.mpr ⟨lw_p0, List.forall_mem_cons.mpr ⟨lw_p1, List.forall_mem_cons.mpr ⟨lw_p2, List.forall_mem_cons.mpr ⟨lw_p3, List.forall_mem_cons.mpr ⟨lw_p4, List.forall_mem_cons.mpr ⟨lw_p5, List.forall_mem_cons.mpr ⟨lw_p6, List.forall_mem_cons.mpr ⟨lw_p7, List.forall_mem_cons.mpr ⟨lw_p8, List.forall_mem_cons.mpr ⟨lw_p9, List.forall_mem_cons.mpr ⟨lw_p10, List.forall_mem_cons.mpr ⟨lw_p11, List.forall_mem_cons.mpr ⟨lw_p12, List.forall_mem_cons.mpr ⟨lw_p13, List.forall_mem_cons.mpr ⟨lw_p14, List.forall_mem_cons.mpr ⟨lw_p15, fun _ h => absurd h List.not_mem_nil⟩⟩⟩⟩⟩⟩⟩⟩⟩⟩⟩⟩⟩⟩⟩⟩
theorem lw_p16 : lw_okq (⟨"WheelHours$Planner", "takenLeft", "(III)I"⟩, 12) := ⟨⟨by decide +kernel, by decide +kernel⟩, List.mem_of_getElem? (i := 212) (by decide +kernel), List.mem_of_getElem? (i := 512) (by decide +kernel), List.mem_of_getElem? (i := 513) (by decide +kernel)⟩
theorem lw_p17 : lw_okq (⟨"WheelHours$Planner", "extendedLeft", "(III)I"⟩, 12) := ⟨⟨by decide +kernel, by decide +kernel⟩, List.mem_of_getElem? (i := 212) (by decide +kernel), List.mem_of_getElem? (i := 516) (by decide +kernel), List.mem_of_getElem? (i := 517) (by decide +kernel)⟩
theorem lw_p18 : lw_okq (⟨"WheelHours$Planner", "leastFrom", "(III)J"⟩, 12) := ⟨⟨by decide +kernel, by decide +kernel⟩, List.mem_of_getElem? (i := 212) (by decide +kernel), List.mem_of_getElem? (i := 520) (by decide +kernel), List.mem_of_getElem? (i := 521) (by decide +kernel)⟩
theorem lw_p19 : lw_okq (⟨"WheelHours$Planner", "choiceAt", "(III)I"⟩, 12) := ⟨⟨by decide +kernel, by decide +kernel⟩, List.mem_of_getElem? (i := 212) (by decide +kernel), List.mem_of_getElem? (i := 531) (by decide +kernel), List.mem_of_getElem? (i := 532) (by decide +kernel)⟩
theorem lw_p20 : lw_okq (⟨"WheelHours", "findBreaches", "()V"⟩, 10) := ⟨⟨by decide +kernel, by decide +kernel⟩, List.mem_of_getElem? (i := 16) (by decide +kernel), List.mem_of_getElem? (i := 543) (by decide +kernel), List.mem_of_getElem? (i := 544) (by decide +kernel)⟩
theorem lw_p21 : lw_okq (⟨"WheelHours$Wheel", "passRuns", "(I)V"⟩, 4) := ⟨⟨by decide +kernel, by decide +kernel⟩, List.mem_of_getElem? (i := 161) (by decide +kernel), List.mem_of_getElem? (i := 551) (by decide +kernel), List.mem_of_getElem? (i := 552) (by decide +kernel)⟩
theorem lw_p22 : lw_okq (⟨"WheelHours$Wheel", "passRun", "(I)V"⟩, 4) := ⟨⟨by decide +kernel, by decide +kernel⟩, List.mem_of_getElem? (i := 161) (by decide +kernel), List.mem_of_getElem? (i := 555) (by decide +kernel), List.mem_of_getElem? (i := 556) (by decide +kernel)⟩
theorem lw_p23 : lw_okq (⟨"WheelHours$Wheel", "frees", "(I)Z"⟩, 4) := ⟨⟨by decide +kernel, by decide +kernel⟩, List.mem_of_getElem? (i := 161) (by decide +kernel), List.mem_of_getElem? (i := 560) (by decide +kernel), List.mem_of_getElem? (i := 561) (by decide +kernel)⟩
theorem lw_p24 : lw_okq (⟨"WheelHours$Wheel", "tellSpell", "(LWheelHours$Breaches;II)V"⟩, 4) := ⟨⟨by decide +kernel, by decide +kernel⟩, List.mem_of_getElem? (i := 161) (by decide +kernel), List.mem_of_getElem? (i := 564) (by decide +kernel), List.mem_of_getElem? (i := 565) (by decide +kernel)⟩
theorem lw_p25 : lw_okq (⟨"WheelHours$Breaches", "isBehind", "(III)Z"⟩, 4) := ⟨⟨by decide +kernel, by decide +kernel⟩, List.mem_of_getElem? (i := 256) (by decide +kernel), List.mem_of_getElem? (i := 576) (by decide +kernel), List.mem_of_getElem? (i := 577) (by decide +kernel)⟩
theorem lw_p26 : lw_okq (⟨"WheelHours", "tellOverInWeeks", "()V"⟩, 10) := ⟨⟨by decide +kernel, by decide +kernel⟩, List.mem_of_getElem? (i := 16) (by decide +kernel), List.mem_of_getElem? (i := 586) (by decide +kernel), List.mem_of_getElem? (i := 587) (by decide +kernel)⟩
theorem lw_p27 : lw_okq (⟨"WheelHours$Wheel", "mostBehindRest", "(II)I"⟩, 4) := ⟨⟨by decide +kernel, by decide +kernel⟩, List.mem_of_getElem? (i := 161) (by decide +kernel), List.mem_of_getElem? (i := 642) (by decide +kernel), List.mem_of_getElem? (i := 643) (by decide +kernel)⟩
theorem lw_p28 : lw_okq (⟨"WheelHours$Wheel", "breakFrom", "(I)I"⟩, 4) := ⟨⟨by decide +kernel, by decide +kernel⟩, List.mem_of_getElem? (i := 161) (by decide +kernel), List.mem_of_getElem? (i := 646) (by decide +kernel), List.mem_of_getElem? (i := 647) (by decide +kernel)⟩
theorem lw_p29 : lw_okq (⟨"WheelHours$Wheel", "mostInSpells", "(III)I"⟩, 4) := ⟨⟨by decide +kernel, by decide +kernel⟩, List.mem_of_getElem? (i := 161) (by decide +kernel), List.mem_of_getElem? (i := 651) (by decide +kernel), List.mem_of_getElem? (i := 652) (by decide +kernel)⟩
theorem lw_p30 : lw_okq (⟨"WheelHours$Wheel", "mostWithRestTo", "(III)I"⟩, 4) := ⟨⟨by decide +kernel, by decide +kernel⟩, List.mem_of_getElem? (i := 161) (by decide +kernel), List.mem_of_getElem? (i := 655) (by decide +kernel), List.mem_of_getElem? (i := 656) (by decide +kernel)⟩
theorem lw_p31 : lw_okq (⟨"WheelHours$Comparison", "startAgain", "()V"⟩, 6) := ⟨⟨by decide +kernel, by decide +kernel⟩, List.mem_of_getElem? (i := 276) (by decide +kernel), List.mem_of_getElem? (i := 667) (by decide +kernel), List.mem_of_getElem? (i := 668) (by decide +kernel)⟩
def lw_privs_2 : List (MethodName × Nat) := [(⟨"WheelHours$Planner", "takenLeft", "(III)I"⟩, 12), (⟨"WheelHours$Planner", "extendedLeft", "(III)I"⟩, 12), (⟨"WheelHours$Planner", "leastFrom", "(III)J"⟩, 12), (⟨"WheelHours$Planner", "choiceAt", "(III)I"⟩, 12), (⟨"WheelHours", "findBreaches", "()V"⟩, 10), (⟨"WheelHours$Wheel", "passRuns", "(I)V"⟩, 4), (⟨"WheelHours$Wheel", "passRun", "(I)V"⟩, 4), (⟨"WheelHours$Wheel", "frees", "(I)Z"⟩, 4), (⟨"WheelHours$Wheel", "tellSpell", "(LWheelHours$Breaches;II)V"⟩, 4), (⟨"WheelHours$Breaches", "isBehind", "(III)Z"⟩, 4), (⟨"WheelHours", "tellOverInWeeks", "()V"⟩, 10), (⟨"WheelHours$Wheel", "mostBehindRest", "(II)I"⟩, 4), (⟨"WheelHours$Wheel", "breakFrom", "(I)I"⟩, 4), (⟨"WheelHours$Wheel", "mostInSpells", "(III)I"⟩, 4), (⟨"WheelHours$Wheel", "mostWithRestTo", "(III)I"⟩, 4), (⟨"WheelHours$Comparison", "startAgain", "()V"⟩, 6)]
theorem lw_r2 : ∀ q ∈ lw_privs_2, lw_okq q := List.forall_mem_cons.mpr ⟨lw_p16, List.forall_mem_cons.mpr ⟨lw_p17, List.forall_mem_cons.mpr ⟨lw_p18, List.forall_mem_cons.mpr ⟨lw_p19, List.forall_mem_cons.mpr ⟨lw_p20, List.forall_mem_cons.mpr ⟨lw_p21, List.forall_mem_cons.mpr ⟨lw_p22, List.forall_mem_cons.mpr ⟨lw_p23, List.forall_mem_cons.mpr ⟨lw_p24, List.forall_mem_cons.mpr ⟨lw_p25, List.forall_mem_cons.mpr ⟨lw_p26, List.forall_mem_cons.mpr ⟨lw_p27, List.forall_mem_cons.mpr ⟨lw_p28, List.forall_mem_cons.mpr ⟨lw_p29, List.forall_mem_cons.mpr ⟨lw_p30, List.forall_mem_cons.mpr ⟨lw_p31, fun _ h => absurd h List.not_mem_nil⟩⟩⟩⟩⟩⟩⟩⟩⟩⟩⟩⟩⟩⟩⟩⟩
theorem lw_p32 : lw_okq (⟨"WheelHours$Comparison", "isDriven", "(LWheelHours$Card;III)Z"⟩, 6) := ⟨⟨by decide +kernel, by decide +kernel⟩, List.mem_of_getElem? (i := 276) (by decide +kernel), List.mem_of_getElem? (i := 671) (by decide +kernel), List.mem_of_getElem? (i := 672) (by decide +kernel)⟩
theorem lw_p33 : lw_okq (⟨"WheelHours$Comparison", "isOnTrip", "(LWheelHours$Trips;I)Z"⟩, 6) := ⟨⟨by decide +kernel, by decide +kernel⟩, List.mem_of_getElem? (i := 276) (by decide +kernel), List.mem_of_getElem? (i := 680) (by decide +kernel), List.mem_of_getElem? (i := 681) (by decide +kernel)⟩
theorem lw_p34 : lw_okq (⟨"WheelHours$Comparison", "addMinutes", "(IIZ)V"⟩, 6) := ⟨⟨by decide +kernel, by decide +kernel⟩, List.mem_of_getElem? (i := 276) (by decide +kernel), List.mem_of_getElem? (i := 684) (by decide +kernel), List.mem_of_getElem? (i := 685) (by decide +kernel)⟩
theorem lw_p35 : lw_okq (⟨"WheelHours", "countOfAll", "(I)I"⟩, 10) := ⟨⟨by decide +kernel, by decide +kernel⟩, List.mem_of_getElem? (i := 16) (by decide +kernel), List.mem_of_getElem? (i := 696) (by decide +kernel), List.mem_of_getElem? (i := 697) (by decide +kernel)⟩
theorem lw_p36 : lw_okq (⟨"WheelHoursModel", "types", "(I)V"⟩, 34) := ⟨⟨by decide +kernel, by decide +kernel⟩, List.mem_of_getElem? (i := 706) (by decide +kernel), List.mem_of_getElem? (i := 824) (by decide +kernel), List.mem_of_getElem? (i := 825) (by decide +kernel)⟩
theorem lw_p37 : lw_okq (⟨"WheelHoursModel", "parse", "(I)I"⟩, 34) := ⟨⟨by decide +kernel, by decide +kernel⟩, List.mem_of_getElem? (i := 706) (by decide +kernel), List.mem_of_getElem? (i := 832) (by decide +kernel), List.mem_of_getElem? (i := 833) (by decide +kernel)⟩
theorem lw_p38 : lw_okq (⟨"WheelHoursModel", "isDigit", "(II)Z"⟩, 34) := ⟨⟨by decide +kernel, by decide +kernel⟩, List.mem_of_getElem? (i := 706) (by decide +kernel), List.mem_of_getElem? (i := 839) (by decide +kernel), List.mem_of_getElem? (i := 840) (by decide +kernel)⟩
theorem lw_p39 : lw_okq (⟨"WheelHoursModel", "breaksLaw", "(IZ)V"⟩, 34) := ⟨⟨by decide +kernel, by decide +kernel⟩, List.mem_of_getElem? (i := 706) (by decide +kernel), List.mem_of_getElem? (i := 872) (by decide +kernel), List.mem_of_getElem? (i := 873) (by decide +kernel)⟩
theorem lw_p40 : lw_okq (⟨"WheelHoursModel", "lays", "(IZ)V"⟩, 34) := ⟨⟨by decide +kernel, by decide +kernel⟩, List.mem_of_getElem? (i := 706) (by decide +kernel), List.mem_of_getElem? (i := 876) (by decide +kernel), List.mem_of_getElem? (i := 877) (by decide +kernel)⟩
theorem lw_p41 : lw_okq (⟨"WheelHoursModel", "readAs", "(IIZ)I"⟩, 34) := ⟨⟨by decide +kernel, by decide +kernel⟩, List.mem_of_getElem? (i := 706) (by decide +kernel), List.mem_of_getElem? (i := 880) (by decide +kernel), List.mem_of_getElem? (i := 881) (by decide +kernel)⟩
theorem lw_p42 : lw_okq (⟨"WheelHoursModel", "isRest", "(IIZ)Z"⟩, 34) := ⟨⟨by decide +kernel, by decide +kernel⟩, List.mem_of_getElem? (i := 706) (by decide +kernel), List.mem_of_getElem? (i := 884) (by decide +kernel), List.mem_of_getElem? (i := 885) (by decide +kernel)⟩
theorem lw_p43 : lw_okq (⟨"WheelHoursModel", "ruleOne", "()V"⟩, 34) := ⟨⟨by decide +kernel, by decide +kernel⟩, List.mem_of_getElem? (i := 706) (by decide +kernel), List.mem_of_getElem? (i := 888) (by decide +kernel), List.mem_of_getElem? (i := 889) (by decide +kernel)⟩
theorem lw_p44 : lw_okq (⟨"WheelHoursModel", "runLength", "(I)I"⟩, 34) := ⟨⟨by decide +kernel, by decide +kernel⟩, List.mem_of_getElem? (i := 706) (by decide +kernel), List.mem_of_getElem? (i := 892) (by decide +kernel), List.mem_of_getElem? (i := 893) (by decide +kernel)⟩
theorem lw_p45 : lw_okq (⟨"WheelHoursModel", "resets", "(I)Z"⟩, 34) := ⟨⟨by decide +kernel, by decide +kernel⟩, List.mem_of_getElem? (i := 706) (by decide +kernel), List.mem_of_getElem? (i := 896) (by decide +kernel), List.mem_of_getElem? (i := 897) (by decide +kernel)⟩
theorem lw_p46 : lw_okq (⟨"WheelHoursModel", "tells", "(III)V"⟩, 34) := ⟨⟨by decide +kernel, by decide +kernel⟩, List.mem_of_getElem? (i := 706) (by decide +kernel), List.mem_of_getElem? (i := 900) (by decide +kernel), List.mem_of_getElem? (i := 901) (by decide +kernel)⟩
theorem lw_p47 : lw_okq (⟨"WheelHoursModel", "chooses", "()V"⟩, 34) := ⟨⟨by decide +kernel, by decide +kernel⟩, List.mem_of_getElem? (i := 706) (by decide +kernel), List.mem_of_getElem? (i := 904) (by decide +kernel), List.mem_of_getElem? (i := 905) (by decide +kernel)⟩
def lw_privs_3 : List (MethodName × Nat) := [(⟨"WheelHours$Comparison", "isDriven", "(LWheelHours$Card;III)Z"⟩, 6), (⟨"WheelHours$Comparison", "isOnTrip", "(LWheelHours$Trips;I)Z"⟩, 6), (⟨"WheelHours$Comparison", "addMinutes", "(IIZ)V"⟩, 6), (⟨"WheelHours", "countOfAll", "(I)I"⟩, 10), (⟨"WheelHoursModel", "types", "(I)V"⟩, 34), (⟨"WheelHoursModel", "parse", "(I)I"⟩, 34), (⟨"WheelHoursModel", "isDigit", "(II)Z"⟩, 34), (⟨"WheelHoursModel", "breaksLaw", "(IZ)V"⟩, 34), (⟨"WheelHoursModel", "lays", "(IZ)V"⟩, 34), (⟨"WheelHoursModel", "readAs", "(IIZ)I"⟩, 34), (⟨"WheelHoursModel", "isRest", "(IIZ)Z"⟩, 34), (⟨"WheelHoursModel", "ruleOne", "()V"⟩, 34), (⟨"WheelHoursModel", "runLength", "(I)I"⟩, 34), (⟨"WheelHoursModel", "resets", "(I)Z"⟩, 34), (⟨"WheelHoursModel", "tells", "(III)V"⟩, 34), (⟨"WheelHoursModel", "chooses", "()V"⟩, 34)]
theorem lw_r3 : ∀ q ∈ lw_privs_3, lw_okq q := List.forall_mem_cons.mpr ⟨lw_p32, List.forall_mem_cons.mpr ⟨lw_p33, List.forall_mem_cons.mpr ⟨lw_p34, List.forall_mem_cons.mpr ⟨lw_p35, List.forall_mem_cons.mpr ⟨lw_p36, List.forall_mem_cons.mpr ⟨lw_p37, List.forall_mem_cons.mpr ⟨lw_p38, List.forall_mem_cons.mpr ⟨lw_p39, List.forall_mem_cons.mpr ⟨lw_p40, List.forall_mem_cons.mpr ⟨lw_p41, List.forall_mem_cons.mpr ⟨lw_p42, List.forall_mem_cons.mpr ⟨lw_p43, List.forall_mem_cons.mpr ⟨lw_p44, List.forall_mem_cons.mpr ⟨lw_p45, List.forall_mem_cons.mpr ⟨lw_p46, List.forall_mem_cons.mpr ⟨lw_p47, fun _ h => absurd h List.not_mem_nil⟩⟩⟩⟩⟩⟩⟩⟩⟩⟩⟩⟩⟩⟩⟩⟩
theorem lw_p48 : lw_okq (⟨"WheelHoursModel", "finds", "()V"⟩, 34) := ⟨⟨by decide +kernel, by decide +kernel⟩, List.mem_of_getElem? (i := 706) (by decide +kernel), List.mem_of_getElem? (i := 908) (by decide +kernel), List.mem_of_getElem? (i := 909) (by decide +kernel)⟩
theorem lw_p49 : lw_okq (⟨"WheelHoursModel", "reckons", "(I)V"⟩, 34) := ⟨⟨by decide +kernel, by decide +kernel⟩, List.mem_of_getElem? (i := 706) (by decide +kernel), List.mem_of_getElem? (i := 912) (by decide +kernel), List.mem_of_getElem? (i := 913) (by decide +kernel)⟩
theorem lw_p50 : lw_okq (⟨"WheelHoursModel", "parts", "(I)V"⟩, 34) := ⟨⟨by decide +kernel, by decide +kernel⟩, List.mem_of_getElem? (i := 706) (by decide +kernel), List.mem_of_getElem? (i := 916) (by decide +kernel), List.mem_of_getElem? (i := 917) (by decide +kernel)⟩
theorem lw_p51 : lw_okq (⟨"WheelHoursModel", "isTaken", "(II)Z"⟩, 34) := ⟨⟨by decide +kernel, by decide +kernel⟩, List.mem_of_getElem? (i := 706) (by decide +kernel), List.mem_of_getElem? (i := 920) (by decide +kernel), List.mem_of_getElem? (i := 921) (by decide +kernel)⟩
theorem lw_p52 : lw_okq (⟨"WheelHoursModel", "extendsDays", "()V"⟩, 34) := ⟨⟨by decide +kernel, by decide +kernel⟩, List.mem_of_getElem? (i := 706) (by decide +kernel), List.mem_of_getElem? (i := 924) (by decide +kernel), List.mem_of_getElem? (i := 925) (by decide +kernel)⟩
theorem lw_p53 : lw_okq (⟨"WheelHoursModel", "overOf", "(IZ)I"⟩, 34) := ⟨⟨by decide +kernel, by decide +kernel⟩, List.mem_of_getElem? (i := 706) (by decide +kernel), List.mem_of_getElem? (i := 928) (by decide +kernel), List.mem_of_getElem? (i := 929) (by decide +kernel)⟩
theorem lw_p54 : lw_okq (⟨"WheelHoursModel", "driveIn", "(II)I"⟩, 34) := ⟨⟨by decide +kernel, by decide +kernel⟩, List.mem_of_getElem? (i := 706) (by decide +kernel), List.mem_of_getElem? (i := 932) (by decide +kernel), List.mem_of_getElem? (i := 933) (by decide +kernel)⟩
theorem lw_p55 : lw_okq (⟨"WheelHoursModel", "lateOf", "(I)I"⟩, 34) := ⟨⟨by decide +kernel, by decide +kernel⟩, List.mem_of_getElem? (i := 706) (by decide +kernel), List.mem_of_getElem? (i := 936) (by decide +kernel), List.mem_of_getElem? (i := 937) (by decide +kernel)⟩
theorem lw_p56 : lw_okq (⟨"WheelHoursModel", "mayBe", "(I)Z"⟩, 34) := ⟨⟨by decide +kernel, by decide +kernel⟩, List.mem_of_getElem? (i := 706) (by decide +kernel), List.mem_of_getElem? (i := 940) (by decide +kernel), List.mem_of_getElem? (i := 941) (by decide +kernel)⟩
theorem lw_p57 : lw_okq (⟨"WheelHoursModel", "goesAbove", "(II)I"⟩, 34) := ⟨⟨by decide +kernel, by decide +kernel⟩, List.mem_of_getElem? (i := 706) (by decide +kernel), List.mem_of_getElem? (i := 950) (by decide +kernel), List.mem_of_getElem? (i := 951) (by decide +kernel)⟩
theorem lw_p58 : lw_okq (⟨"WheelHoursModel", "open", "()I"⟩, 34) := ⟨⟨by decide +kernel, by decide +kernel⟩, List.mem_of_getElem? (i := 706) (by decide +kernel), List.mem_of_getElem? (i := 970) (by decide +kernel), List.mem_of_getElem? (i := 971) (by decide +kernel)⟩
theorem lw_p59 : lw_okq (⟨"WheelHoursModel", "wholeOr", "(Z)I"⟩, 34) := ⟨⟨by decide +kernel, by decide +kernel⟩, List.mem_of_getElem? (i := 706) (by decide +kernel), List.mem_of_getElem? (i := 981) (by decide +kernel), List.mem_of_getElem? (i := 982) (by decide +kernel)⟩
theorem lw_p60 : lw_okq (⟨"WheelHoursModel", "mostOf", "(III)I"⟩, 34) := ⟨⟨by decide +kernel, by decide +kernel⟩, List.mem_of_getElem? (i := 706) (by decide +kernel), List.mem_of_getElem? (i := 985) (by decide +kernel), List.mem_of_getElem? (i := 986) (by decide +kernel)⟩
theorem lw_p61 : lw_okq (⟨"WheelHoursModel", "isOnTrip", "(II)Z"⟩, 34) := ⟨⟨by decide +kernel, by decide +kernel⟩, List.mem_of_getElem? (i := 706) (by decide +kernel), List.mem_of_getElem? (i := 996) (by decide +kernel), List.mem_of_getElem? (i := 997) (by decide +kernel)⟩
def lw_privs_4 : List (MethodName × Nat) := [(⟨"WheelHoursModel", "finds", "()V"⟩, 34), (⟨"WheelHoursModel", "reckons", "(I)V"⟩, 34), (⟨"WheelHoursModel", "parts", "(I)V"⟩, 34), (⟨"WheelHoursModel", "isTaken", "(II)Z"⟩, 34), (⟨"WheelHoursModel", "extendsDays", "()V"⟩, 34), (⟨"WheelHoursModel", "overOf", "(IZ)I"⟩, 34), (⟨"WheelHoursModel", "driveIn", "(II)I"⟩, 34), (⟨"WheelHoursModel", "lateOf", "(I)I"⟩, 34), (⟨"WheelHoursModel", "mayBe", "(I)Z"⟩, 34), (⟨"WheelHoursModel", "goesAbove", "(II)I"⟩, 34), (⟨"WheelHoursModel", "open", "()I"⟩, 34), (⟨"WheelHoursModel", "wholeOr", "(Z)I"⟩, 34), (⟨"WheelHoursModel", "mostOf", "(III)I"⟩, 34), (⟨"WheelHoursModel", "isOnTrip", "(II)Z"⟩, 34)]
theorem lw_r4 : ∀ q ∈ lw_privs_4, lw_okq q := List.forall_mem_cons.mpr ⟨lw_p48, List.forall_mem_cons.mpr ⟨lw_p49, List.forall_mem_cons.mpr ⟨lw_p50, List.forall_mem_cons.mpr ⟨lw_p51, List.forall_mem_cons.mpr ⟨lw_p52, List.forall_mem_cons.mpr ⟨lw_p53, List.forall_mem_cons.mpr ⟨lw_p54, List.forall_mem_cons.mpr ⟨lw_p55, List.forall_mem_cons.mpr ⟨lw_p56, List.forall_mem_cons.mpr ⟨lw_p57, List.forall_mem_cons.mpr ⟨lw_p58, List.forall_mem_cons.mpr ⟨lw_p59, List.forall_mem_cons.mpr ⟨lw_p60, List.forall_mem_cons.mpr ⟨lw_p61, fun _ h => absurd h List.not_mem_nil⟩⟩⟩⟩⟩⟩⟩⟩⟩⟩⟩⟩⟩⟩
def lw_privs : List (MethodName × Nat) := lw_privs_1 ++ (lw_privs_2 ++ (lw_privs_3 ++ (lw_privs_4)))
def lw_tbl : List Cond := k2_sels lw_privs ++ tables_1
theorem lw_privs_ok : ∀ q ∈ lw_privs, lw_okq q := by
  show ∀ q ∈ lw_privs_1 ++ (lw_privs_2 ++ (lw_privs_3 ++ (lw_privs_4))), lw_okq q
  exact List.forall_mem_append.mpr ⟨lw_r1, List.forall_mem_append.mpr ⟨lw_r2, List.forall_mem_append.mpr ⟨lw_r3, lw_r4⟩⟩⟩
end
section
def RX0 : String := "WheelHours$Breaches"
def TX0 : u_T := fun k => match k with
  | 0 => ("WheelHours$Breaches", "minute", "[I", true)
  | 1 => ("WheelHours$Breaches", "rule", "[I", true)
  | 2 => ("WheelHours$Breaches", "much", "[I", true)
  | _ => ("WheelHours$Breaches", "size", "I", false)
def tyX0 : Nat → FieldType := fun k => match k with
  | 0 => .array .int
  | 1 => .array .int
  | 2 => .array .int
  | _ => .int
abbrev wsX00 : List Cond := u_ws RX0 TX0 4
theorem nmX0 : ∀ a, a < 4 → ∀ b, b < 4 → a ≠ b → (TX0 a).2.1 ≠ (TX0 b).2.1 := by decide +kernel
theorem tyX0_ok : ∀ k, k < 4 → parseFieldDescriptor (TX0 k).2.2.1 = some (tyX0 k) := by decide +kernel
abbrev cX0_init : ByteArray := prog_2_method_1_code
def yX0_init : MethodName := ⟨RX0, "<init>", "()V"⟩
abbrev cX0_insert : ByteArray := prog_2_method_2_code
def yX0_insert : MethodName := ⟨RX0, "insert", "(III)V"⟩
abbrev cX0_isBehind : ByteArray := prog_2_method_3_code
def yX0_isBehind : MethodName := ⟨RX0, "isBehind", "(III)Z"⟩
abbrev cX0_tell : ByteArray := prog_2_method_4_code
def yX0_tell : MethodName := ⟨RX0, "tell", "(II)I"⟩
def RX1 : String := "WheelHours$Card"
def TX1 : u_T := fun k => match k with
  | 0 => ("WheelHours$Card", "kind", "[I", true)
  | 1 => ("WheelHours$Card", "vehicle", "[I", true)
  | 2 => ("WheelHours$Card", "begin", "[I", true)
  | _ => ("WheelHours$Card", "acts", "I", false)
def tyX1 : Nat → FieldType := fun k => match k with
  | 0 => .array .int
  | 1 => .array .int
  | 2 => .array .int
  | _ => .int
abbrev wsX10 : List Cond := u_ws RX1 TX1 4
theorem nmX1 : ∀ a, a < 4 → ∀ b, b < 4 → a ≠ b → (TX1 a).2.1 ≠ (TX1 b).2.1 := by decide +kernel
theorem tyX1_ok : ∀ k, k < 4 → parseFieldDescriptor (TX1 k).2.2.1 = some (tyX1 k) := by decide +kernel
abbrev cX1_init : ByteArray := prog_3_method_1_code
def yX1_init : MethodName := ⟨RX1, "<init>", "()V"⟩
abbrev cX1_has : ByteArray := prog_3_method_2_code
def yX1_has : MethodName := ⟨RX1, "has", "(I)Z"⟩
abbrev cX1_hasRoom : ByteArray := prog_3_method_3_code
def yX1_hasRoom : MethodName := ⟨RX1, "hasRoom", "(I)Z"⟩
abbrev cX1_append : ByteArray := prog_3_method_4_code
def yX1_append : MethodName := ⟨RX1, "append", "(III)I"⟩
abbrev cX1_change : ByteArray := prog_3_method_5_code
def yX1_change : MethodName := ⟨RX1, "change", "(III)V"⟩
abbrev cX1_drives : ByteArray := prog_3_method_6_code
def yX1_drives : MethodName := ⟨RX1, "drives", "(II)Z"⟩
abbrev cX1_kindRead : ByteArray := prog_3_method_7_code
def yX1_kindRead : MethodName := ⟨RX1, "kindRead", "(IZ)I"⟩
abbrev cX1_isRest : ByteArray := prog_3_method_8_code
def yX1_isRest : MethodName := ⟨RX1, "isRest", "(IZ)Z"⟩
def RX2 : String := "WheelHours$Comparison"
def TX2 : u_T := fun k => match k with
  | 0 => ("WheelHours$Comparison", "actAt", "[I", true)
  | 1 => ("WheelHours$Comparison", "tripAt", "I", false)
  | 2 => ("WheelHours$Comparison", "next", "I", false)
  | 3 => ("WheelHours$Comparison", "withoutCard", "I", false)
  | 4 => ("WheelHours$Comparison", "withMoreCards", "I", false)
  | _ => ("WheelHours$Comparison", "withoutTrip", "I", false)
def tyX2 : Nat → FieldType := fun k => match k with
  | 0 => .array .int
  | 1 => .int
  | 2 => .int
  | 3 => .int
  | 4 => .int
  | _ => .int
abbrev wsX20 : List Cond := u_ws RX2 TX2 6
theorem nmX2 : ∀ a, a < 6 → ∀ b, b < 6 → a ≠ b → (TX2 a).2.1 ≠ (TX2 b).2.1 := by decide +kernel
theorem tyX2_ok : ∀ k, k < 6 → parseFieldDescriptor (TX2 k).2.2.1 = some (tyX2 k) := by decide +kernel
abbrev cX2_init : ByteArray := prog_4_method_1_code
def yX2_init : MethodName := ⟨RX2, "<init>", "()V"⟩
abbrev cX2_compare : ByteArray := prog_4_method_2_code
def yX2_compare : MethodName := ⟨RX2, "compare", "([LWheelHours$Card;LWheelHours$Trips;I)V"⟩
abbrev cX2_startAgain : ByteArray := prog_4_method_3_code
def yX2_startAgain : MethodName := ⟨RX2, "startAgain", "()V"⟩
abbrev cX2_isDriven : ByteArray := prog_4_method_4_code
def yX2_isDriven : MethodName := ⟨RX2, "isDriven", "(LWheelHours$Card;III)Z"⟩
abbrev cX2_isOnTrip : ByteArray := prog_4_method_5_code
def yX2_isOnTrip : MethodName := ⟨RX2, "isOnTrip", "(LWheelHours$Trips;I)Z"⟩
abbrev cX2_addMinutes : ByteArray := prog_4_method_6_code
def yX2_addMinutes : MethodName := ⟨RX2, "addMinutes", "(IIZ)V"⟩
def RX3 : String := "WheelHours$Days"
def TX3 : u_T := fun k => match k with
  | 0 => ("WheelHours$Days", "from", "[I", true)
  | 1 => ("WheelHours$Days", "to", "[I", true)
  | 2 => ("WheelHours$Days", "drive", "[I", true)
  | 3 => ("WheelHours$Days", "extended", "[I", true)
  | 4 => ("WheelHours$Days", "endedBy", "[I", true)
  | 5 => ("WheelHours$Days", "over", "[I", true)
  | 6 => ("WheelHours$Days", "late", "[I", true)
  | _ => ("WheelHours$Days", "size", "I", false)
def tyX3 : Nat → FieldType := fun k => match k with
  | 0 => .array .int
  | 1 => .array .int
  | 2 => .array .int
  | 3 => .array .int
  | 4 => .array .int
  | 5 => .array .int
  | 6 => .array .int
  | _ => .int
abbrev wsX30 : List Cond := u_ws RX3 TX3 8
theorem nmX3 : ∀ a, a < 8 → ∀ b, b < 8 → a ≠ b → (TX3 a).2.1 ≠ (TX3 b).2.1 := by decide +kernel
theorem tyX3_ok : ∀ k, k < 8 → parseFieldDescriptor (TX3 k).2.2.1 = some (tyX3 k) := by decide +kernel
abbrev cX3_init : ByteArray := prog_5_method_1_code
def yX3_init : MethodName := ⟨RX3, "<init>", "()V"⟩
abbrev cX3_addSpan : ByteArray := prog_5_method_2_code
def yX3_addSpan : MethodName := ⟨RX3, "addSpan", "(III)V"⟩
abbrev cX3_setLast : ByteArray := prog_5_method_3_code
def yX3_setLast : MethodName := ⟨RX3, "setLast", "(IIII)V"⟩
abbrev cX3_overAndLate : ByteArray := prog_5_method_4_code
def yX3_overAndLate : MethodName := ⟨RX3, "overAndLate", "()I"⟩
abbrev cX3_tellOverAndLate : ByteArray := prog_5_method_5_code
def yX3_tellOverAndLate : MethodName := ⟨RX3, "tellOverAndLate", "(LWheelHours$Breaches;LWheelHours$Law;LWheelHours$Reading;)V"⟩
abbrev cX3_tell : ByteArray := prog_5_method_6_code
def yX3_tell : MethodName := ⟨RX3, "tell", "(II)I"⟩
def RX4 : String := "WheelHours$Law"
def TX4 : u_T := fun k => match k with
  | 0 => ("WheelHours$Law", "numbers", "[I", true)
  | _ => ("WheelHours$Law", "told", "[I", true)
def tyX4 : Nat → FieldType := fun k => match k with
  | 0 => .array .int
  | _ => .array .int
abbrev wsX40 : List Cond := u_ws RX4 TX4 2
theorem nmX4 : ∀ a, a < 2 → ∀ b, b < 2 → a ≠ b → (TX4 a).2.1 ≠ (TX4 b).2.1 := by decide +kernel
theorem tyX4_ok : ∀ k, k < 2 → parseFieldDescriptor (TX4 k).2.2.1 = some (tyX4 k) := by decide +kernel
abbrev cX4_init : ByteArray := prog_6_method_1_code
def yX4_init : MethodName := ⟨RX4, "<init>", "()V"⟩
abbrev cX4_placeOf : ByteArray := prog_6_method_2_code
def yX4_placeOf : MethodName := ⟨RX4, "placeOf", "(I)I"⟩
abbrev cX4_tell : ByteArray := prog_6_method_3_code
def yX4_tell : MethodName := ⟨RX4, "tell", "([II)I"⟩
abbrev cX4_endOfDigits : ByteArray := prog_6_method_4_code
def yX4_endOfDigits : MethodName := ⟨RX4, "endOfDigits", "([III)I"⟩
abbrev cX4_numberOf : ByteArray := prog_6_method_5_code
def yX4_numberOf : MethodName := ⟨RX4, "numberOf", "([III)I"⟩
abbrev cX4_canBe : ByteArray := prog_6_method_6_code
def yX4_canBe : MethodName := ⟨RX4, "canBe", "(II)Z"⟩
def RX5 : String := "WheelHours$Planner"
def TX5 : u_T := fun k => match k with
  | 0 => ("WheelHours$Planner", "laws", "LWheelHours$Law;", true)
  | 1 => ("WheelHours$Planner", "reading", "LWheelHours$Reading;", true)
  | 2 => ("WheelHours$Planner", "days", "LWheelHours$Days;", true)
  | 3 => ("WheelHours$Planner", "minute", "[I", true)
  | 4 => ("WheelHours$Planner", "drive", "[I", true)
  | 5 => ("WheelHours$Planner", "enough", "[I", true)
  | 6 => ("WheelHours$Planner", "endedBy", "[I", true)
  | 7 => ("WheelHours$Planner", "ownPrice", "[J", true)
  | 8 => ("WheelHours$Planner", "marks", "I", false)
  | 9 => ("WheelHours$Planner", "mostTaken", "I", false)
  | 10 => ("WheelHours$Planner", "mostExtended", "I", false)
  | _ => ("WheelHours$Planner", "least", "[J", false)
def tyX5 : Nat → FieldType := fun k => match k with
  | 0 => .object "WheelHours$Law"
  | 1 => .object "WheelHours$Reading"
  | 2 => .object "WheelHours$Days"
  | 3 => .array .int
  | 4 => .array .int
  | 5 => .array .int
  | 6 => .array .int
  | 7 => .array .long
  | 8 => .int
  | 9 => .int
  | 10 => .int
  | _ => .array .long
abbrev wsX50 : List Cond := u_ws RX5 TX5 12
theorem nmX5 : ∀ a, a < 12 → ∀ b, b < 12 → a ≠ b → (TX5 a).2.1 ≠ (TX5 b).2.1 := by decide +kernel
theorem tyX5_ok : ∀ k, k < 12 → parseFieldDescriptor (TX5 k).2.2.1 = some (tyX5 k) := by decide +kernel
abbrev cX5_init : ByteArray := prog_7_method_1_code
def yX5_init : MethodName := ⟨RX5, "<init>", "(LWheelHours$Law;LWheelHours$Reading;LWheelHours$Days;)V"⟩
abbrev cX5_findPrices : ByteArray := prog_7_method_2_code
def yX5_findPrices : MethodName := ⟨RX5, "findPrices", "()V"⟩
abbrev cX5_findMarks : ByteArray := prog_7_method_3_code
def yX5_findMarks : MethodName := ⟨RX5, "findMarks", "()V"⟩
abbrev cX5_addRest : ByteArray := prog_7_method_4_code
def yX5_addRest : MethodName := ⟨RX5, "addRest", "(IIIJ)V"⟩
abbrev cX5_addMark : ByteArray := prog_7_method_5_code
def yX5_addMark : MethodName := ⟨RX5, "addMark", "(IIIIJ)V"⟩
abbrev cX5_makeRoom : ByteArray := prog_7_method_6_code
def yX5_makeRoom : MethodName := ⟨RX5, "makeRoom", "()V"⟩
abbrev cX5_placeOf : ByteArray := prog_7_method_7_code
def yX5_placeOf : MethodName := ⟨RX5, "placeOf", "(III)I"⟩
abbrev cX5_findLeast : ByteArray := prog_7_method_8_code
def yX5_findLeast : MethodName := ⟨RX5, "findLeast", "(I)V"⟩
abbrev cX5_lastEnd : ByteArray := prog_7_method_9_code
def yX5_lastEnd : MethodName := ⟨RX5, "lastEnd", "(I)I"⟩
abbrev cX5_offer : ByteArray := prog_7_method_10_code
def yX5_offer : MethodName := ⟨RX5, "offer", "(III)V"⟩
abbrev cX5_priceOf : ByteArray := prog_7_method_11_code
def yX5_priceOf : MethodName := ⟨RX5, "priceOf", "(III)J"⟩
abbrev cX5_overOf : ByteArray := prog_7_method_12_code
def yX5_overOf : MethodName := ⟨RX5, "overOf", "(III)I"⟩
abbrev cX5_lateOf : ByteArray := prog_7_method_13_code
def yX5_lateOf : MethodName := ⟨RX5, "lateOf", "(II)I"⟩
abbrev cX5_takenLeft : ByteArray := prog_7_method_14_code
def yX5_takenLeft : MethodName := ⟨RX5, "takenLeft", "(III)I"⟩
abbrev cX5_extendedLeft : ByteArray := prog_7_method_15_code
def yX5_extendedLeft : MethodName := ⟨RX5, "extendedLeft", "(III)I"⟩
abbrev cX5_leastFrom : ByteArray := prog_7_method_16_code
def yX5_leastFrom : MethodName := ⟨RX5, "leastFrom", "(III)J"⟩
abbrev cX5_tellDays : ByteArray := prog_7_method_17_code
def yX5_tellDays : MethodName := ⟨RX5, "tellDays", "()V"⟩
abbrev cX5_choiceAt : ByteArray := prog_7_method_18_code
def yX5_choiceAt : MethodName := ⟨RX5, "choiceAt", "(III)I"⟩
def RX6 : String := "WheelHours$Reading"
def TX6 : u_T := fun k => match k with
  | 0 => ("WheelHours$Reading", "kind", "[I", true)
  | 1 => ("WheelHours$Reading", "begin", "[I", true)
  | 2 => ("WheelHours$Reading", "runFrom", "[I", true)
  | 3 => ("WheelHours$Reading", "runTo", "[I", true)
  | 4 => ("WheelHours$Reading", "runDrive", "[I", true)
  | 5 => ("WheelHours$Reading", "acts", "I", false)
  | 6 => ("WheelHours$Reading", "total", "I", false)
  | 7 => ("WheelHours$Reading", "drive", "I", false)
  | _ => ("WheelHours$Reading", "runs", "I", false)
def tyX6 : Nat → FieldType := fun k => match k with
  | 0 => .array .int
  | 1 => .array .int
  | 2 => .array .int
  | 3 => .array .int
  | 4 => .array .int
  | 5 => .int
  | 6 => .int
  | 7 => .int
  | _ => .int
abbrev wsX60 : List Cond := u_ws RX6 TX6 9
theorem nmX6 : ∀ a, a < 9 → ∀ b, b < 9 → a ≠ b → (TX6 a).2.1 ≠ (TX6 b).2.1 := by decide +kernel
theorem tyX6_ok : ∀ k, k < 9 → parseFieldDescriptor (TX6 k).2.2.1 = some (tyX6 k) := by decide +kernel
abbrev cX6_init : ByteArray := prog_8_method_1_code
def yX6_init : MethodName := ⟨RX6, "<init>", "()V"⟩
abbrev cX6_read : ByteArray := prog_8_method_2_code
def yX6_read : MethodName := ⟨RX6, "read", "(LWheelHours$Card;Z)V"⟩
abbrev cX6_addRest : ByteArray := prog_8_method_3_code
def yX6_addRest : MethodName := ⟨RX6, "addRest", "(I)V"⟩
abbrev cX6_runLength : ByteArray := prog_8_method_4_code
def yX6_runLength : MethodName := ⟨RX6, "runLength", "(I)I"⟩
abbrev cX6_longestRun : ByteArray := prog_8_method_5_code
def yX6_longestRun : MethodName := ⟨RX6, "longestRun", "()I"⟩
abbrev cX6_endsWithRun : ByteArray := prog_8_method_6_code
def yX6_endsWithRun : MethodName := ⟨RX6, "endsWithRun", "()Z"⟩
abbrev cX6_driveAhead : ByteArray := prog_8_method_7_code
def yX6_driveAhead : MethodName := ⟨RX6, "driveAhead", "(I)I"⟩
abbrev cX6_driveMinute : ByteArray := prog_8_method_8_code
def yX6_driveMinute : MethodName := ⟨RX6, "driveMinute", "(I)I"⟩
def RX7 : String := "WheelHours$Tape"
def TX7 : u_T := fun k => match k with
  | 0 => ("WheelHours$Tape", "bytes", "[I", true)
  | _ => ("WheelHours$Tape", "size", "I", false)
def tyX7 : Nat → FieldType := fun k => match k with
  | 0 => .array .int
  | _ => .int
abbrev wsX70 : List Cond := u_ws RX7 TX7 2
theorem nmX7 : ∀ a, a < 2 → ∀ b, b < 2 → a ≠ b → (TX7 a).2.1 ≠ (TX7 b).2.1 := by decide +kernel
theorem tyX7_ok : ∀ k, k < 2 → parseFieldDescriptor (TX7 k).2.2.1 = some (tyX7 k) := by decide +kernel
abbrev cX7_init : ByteArray := prog_9_method_1_code
def yX7_init : MethodName := ⟨RX7, "<init>", "()V"⟩
abbrev cX7_hasRoom : ByteArray := prog_9_method_2_code
def yX7_hasRoom : MethodName := ⟨RX7, "hasRoom", "()Z"⟩
abbrev cX7_append : ByteArray := prog_9_method_3_code
def yX7_append : MethodName := ⟨RX7, "append", "(I)V"⟩
def RX8 : String := "WheelHours$Trips"
def TX8 : u_T := fun k => match k with
  | 0 => ("WheelHours$Trips", "from", "[I", true)
  | 1 => ("WheelHours$Trips", "to", "[I", true)
  | _ => ("WheelHours$Trips", "size", "I", false)
def tyX8 : Nat → FieldType := fun k => match k with
  | 0 => .array .int
  | 1 => .array .int
  | _ => .int
abbrev wsX80 : List Cond := u_ws RX8 TX8 3
theorem nmX8 : ∀ a, a < 3 → ∀ b, b < 3 → a ≠ b → (TX8 a).2.1 ≠ (TX8 b).2.1 := by decide +kernel
theorem tyX8_ok : ∀ k, k < 3 → parseFieldDescriptor (TX8 k).2.2.1 = some (tyX8 k) := by decide +kernel
abbrev cX8_init : ByteArray := prog_10_method_1_code
def yX8_init : MethodName := ⟨RX8, "<init>", "()V"⟩
abbrev cX8_insert : ByteArray := prog_10_method_2_code
def yX8_insert : MethodName := ⟨RX8, "insert", "(II)Z"⟩
def RX9 : String := "WheelHours$Wheel"
def TX9 : u_T := fun k => match k with
  | 0 => ("WheelHours$Wheel", "laws", "LWheelHours$Law;", true)
  | 1 => ("WheelHours$Wheel", "reading", "LWheelHours$Reading;", true)
  | 2 => ("WheelHours$Wheel", "base", "I", false)
  | _ => ("WheelHours$Wheel", "parted", "Z", false)
def tyX9 : Nat → FieldType := fun k => match k with
  | 0 => .object "WheelHours$Law"
  | 1 => .object "WheelHours$Reading"
  | 2 => .int
  | _ => .boolean
abbrev wsX90 : List Cond := u_ws RX9 TX9 4
theorem nmX9 : ∀ a, a < 4 → ∀ b, b < 4 → a ≠ b → (TX9 a).2.1 ≠ (TX9 b).2.1 := by decide +kernel
theorem tyX9_ok : ∀ k, k < 4 → parseFieldDescriptor (TX9 k).2.2.1 = some (tyX9 k) := by decide +kernel
abbrev cX9_init : ByteArray := prog_11_method_1_code
def yX9_init : MethodName := ⟨RX9, "<init>", "(LWheelHours$Law;LWheelHours$Reading;)V"⟩
abbrev cX9_frees : ByteArray := prog_11_method_2_code
def yX9_frees : MethodName := ⟨RX9, "frees", "(I)Z"⟩
abbrev cX9_passRun : ByteArray := prog_11_method_3_code
def yX9_passRun : MethodName := ⟨RX9, "passRun", "(I)V"⟩
abbrev cX9_passRuns : ByteArray := prog_11_method_4_code
def yX9_passRuns : MethodName := ⟨RX9, "passRuns", "(I)V"⟩
abbrev cX9_tellOver : ByteArray := prog_11_method_5_code
def yX9_tellOver : MethodName := ⟨RX9, "tellOver", "(LWheelHours$Breaches;)V"⟩
abbrev cX9_tellSpell : ByteArray := prog_11_method_6_code
def yX9_tellSpell : MethodName := ⟨RX9, "tellSpell", "(LWheelHours$Breaches;II)V"⟩
abbrev cX9_leftNow : ByteArray := prog_11_method_7_code
def yX9_leftNow : MethodName := ⟨RX9, "leftNow", "()I"⟩
abbrev cX9_mostAhead : ByteArray := prog_11_method_8_code
def yX9_mostAhead : MethodName := ⟨RX9, "mostAhead", "(I)I"⟩
abbrev cX9_mostWithRestTo : ByteArray := prog_11_method_9_code
def yX9_mostWithRestTo : MethodName := ⟨RX9, "mostWithRestTo", "(III)I"⟩
abbrev cX9_mostBehindRest : ByteArray := prog_11_method_10_code
def yX9_mostBehindRest : MethodName := ⟨RX9, "mostBehindRest", "(II)I"⟩
abbrev cX9_breakFrom : ByteArray := prog_11_method_11_code
def yX9_breakFrom : MethodName := ⟨RX9, "breakFrom", "(I)I"⟩
abbrev cX9_mostInSpells : ByteArray := prog_11_method_12_code
def yX9_mostInSpells : MethodName := ⟨RX9, "mostInSpells", "(III)I"⟩
def RX10 : String := "WheelHours"
def TX10 : u_T := fun k => match k with
  | 0 => ("WheelHours", "tape", "LWheelHours$Tape;", true)
  | 1 => ("WheelHours", "laws", "LWheelHours$Law;", true)
  | 2 => ("WheelHours", "cards", "[LWheelHours$Card;", true)
  | 3 => ("WheelHours", "trips", "[LWheelHours$Trips;", true)
  | 4 => ("WheelHours", "reading", "LWheelHours$Reading;", true)
  | 5 => ("WheelHours", "wheel", "LWheelHours$Wheel;", true)
  | 6 => ("WheelHours", "days", "LWheelHours$Days;", true)
  | 7 => ("WheelHours", "planner", "LWheelHours$Planner;", true)
  | 8 => ("WheelHours", "found", "LWheelHours$Breaches;", true)
  | _ => ("WheelHours", "comparison", "LWheelHours$Comparison;", true)
def tyX10 : Nat → FieldType := fun k => match k with
  | 0 => .object "WheelHours$Tape"
  | 1 => .object "WheelHours$Law"
  | 2 => .array (.object "WheelHours$Card")
  | 3 => .array (.object "WheelHours$Trips")
  | 4 => .object "WheelHours$Reading"
  | 5 => .object "WheelHours$Wheel"
  | 6 => .object "WheelHours$Days"
  | 7 => .object "WheelHours$Planner"
  | 8 => .object "WheelHours$Breaches"
  | _ => .object "WheelHours$Comparison"
abbrev wsX100 : List Cond := u_ws RX10 TX10 10
theorem nmX10 : ∀ a, a < 10 → ∀ b, b < 10 → a ≠ b → (TX10 a).2.1 ≠ (TX10 b).2.1 := by decide +kernel
theorem tyX10_ok : ∀ k, k < 10 → parseFieldDescriptor (TX10 k).2.2.1 = some (tyX10 k) := by decide +kernel
abbrev cX10_init : ByteArray := prog_1_method_1_code
def yX10_init : MethodName := ⟨RX10, "<init>", "()V"⟩
abbrev cX10_feed : ByteArray := prog_1_method_2_code
def yX10_feed : MethodName := ⟨RX10, "feed", "(IIIII)I"⟩
abbrev cX10_law : ByteArray := prog_1_method_3_code
def yX10_law : MethodName := ⟨RX10, "law", "(I)I"⟩
abbrev cX10_rule : ByteArray := prog_1_method_4_code
def yX10_rule : MethodName := ⟨RX10, "rule", "(I)I"⟩
abbrev cX10_act : ByteArray := prog_1_method_5_code
def yX10_act : MethodName := ⟨RX10, "act", "(IIII)I"⟩
abbrev cX10_put : ByteArray := prog_1_method_6_code
def yX10_put : MethodName := ⟨RX10, "put", "(IIII)Z"⟩
abbrev cX10_trip : ByteArray := prog_1_method_7_code
def yX10_trip : MethodName := ⟨RX10, "trip", "(III)Z"⟩
abbrev cX10_breaches : ByteArray := prog_1_method_8_code
def yX10_breaches : MethodName := ⟨RX10, "breaches", "(IZ)I"⟩
abbrev cX10_breach : ByteArray := prog_1_method_9_code
def yX10_breach : MethodName := ⟨RX10, "breach", "(IZII)I"⟩
abbrev cX10_weight : ByteArray := prog_1_method_10_code
def yX10_weight : MethodName := ⟨RX10, "weight", "(IZ)I"⟩
abbrev cX10_day : ByteArray := prog_1_method_11_code
def yX10_day : MethodName := ⟨RX10, "day", "(IZII)I"⟩
abbrev cX10_may : ByteArray := prog_1_method_12_code
def yX10_may : MethodName := ⟨RX10, "may", "(IZ)I"⟩
abbrev cX10_most : ByteArray := prog_1_method_13_code
def yX10_most : MethodName := ⟨RX10, "most", "(IZI)I"⟩
abbrev cX10_against : ByteArray := prog_1_method_14_code
def yX10_against : MethodName := ⟨RX10, "against", "(II)I"⟩
abbrev cX10_look : ByteArray := prog_1_method_15_code
def yX10_look : MethodName := ⟨RX10, "look", "(III)I"⟩
abbrev cX10_count : ByteArray := prog_1_method_16_code
def yX10_count : MethodName := ⟨RX10, "count", "(II)I"⟩
abbrev cX10_countOfAll : ByteArray := prog_1_method_17_code
def yX10_countOfAll : MethodName := ⟨RX10, "countOfAll", "(I)I"⟩
abbrev cX10_cardOf : ByteArray := prog_1_method_18_code
def yX10_cardOf : MethodName := ⟨RX10, "cardOf", "(I)LWheelHours$Card;"⟩
abbrev cX10_tripsOf : ByteArray := prog_1_method_19_code
def yX10_tripsOf : MethodName := ⟨RX10, "tripsOf", "(I)LWheelHours$Trips;"⟩
abbrev cX10_isKind : ByteArray := prog_1_method_20_code
def yX10_isKind : MethodName := ⟨RX10, "isKind", "(II)Z"⟩
abbrev cX10_findDays : ByteArray := prog_1_method_21_code
def yX10_findDays : MethodName := ⟨RX10, "findDays", "(LWheelHours$Card;Z)V"⟩
abbrev cX10_findBreaches : ByteArray := prog_1_method_22_code
def yX10_findBreaches : MethodName := ⟨RX10, "findBreaches", "()V"⟩
abbrev cX10_tellOverInWeeks : ByteArray := prog_1_method_23_code
def yX10_tellOverInWeeks : MethodName := ⟨RX10, "tellOverInWeeks", "()V"⟩
def RX11 : String := "WheelHoursModel"
def TX11 : u_T := fun k => match k with
  | 0 => ("WheelHoursModel", "tape", "[B", true)
  | 1 => ("WheelHoursModel", "taped", "I", false)
  | 2 => ("WheelHoursModel", "rules", "[I", true)
  | 3 => ("WheelHoursModel", "said", "[I", true)
  | 4 => ("WheelHoursModel", "acts", "[I", true)
  | 5 => ("WheelHoursModel", "minutes", "[I", true)
  | 6 => ("WheelHoursModel", "kindOf", "[I", true)
  | 7 => ("WheelHoursModel", "lengthOf", "[I", true)
  | 8 => ("WheelHoursModel", "vehicleOf", "[I", true)
  | 9 => ("WheelHoursModel", "trips", "[I", true)
  | 10 => ("WheelHoursModel", "tripFrom", "[I", true)
  | 11 => ("WheelHoursModel", "tripTo", "[I", true)
  | 12 => ("WheelHoursModel", "laid", "[I", true)
  | 13 => ("WheelHoursModel", "driven", "[I", true)
  | 14 => ("WheelHoursModel", "runFrom", "[I", true)
  | 15 => ("WheelHoursModel", "runTo", "[I", true)
  | 16 => ("WheelHoursModel", "size", "I", false)
  | 17 => ("WheelHoursModel", "runs", "I", false)
  | 18 => ("WheelHoursModel", "foundAt", "[I", true)
  | 19 => ("WheelHoursModel", "foundRule", "[I", true)
  | 20 => ("WheelHoursModel", "foundMany", "[I", true)
  | 21 => ("WheelHoursModel", "found", "I", false)
  | 22 => ("WheelHoursModel", "counted", "I", false)
  | 23 => ("WheelHoursModel", "isParted", "Z", false)
  | 24 => ("WheelHoursModel", "maybe", "[I", true)
  | 25 => ("WheelHoursModel", "dayFrom", "[I", true)
  | 26 => ("WheelHoursModel", "dayTo", "[I", true)
  | 27 => ("WheelHoursModel", "dayRun", "[I", true)
  | 28 => ("WheelHoursModel", "isLonger", "[Z", true)
  | 29 => ("WheelHoursModel", "maybes", "I", false)
  | 30 => ("WheelHoursModel", "days", "I", false)
  | 31 => ("WheelHoursModel", "over2", "I", false)
  | 32 => ("WheelHoursModel", "longer", "I", false)
  | _ => ("WheelHoursModel", "driving", "[I", true)
def tyX11 : Nat → FieldType := fun k => match k with
  | 0 => .array .byte
  | 1 => .int
  | 2 => .array .int
  | 3 => .array .int
  | 4 => .array .int
  | 5 => .array .int
  | 6 => .array .int
  | 7 => .array .int
  | 8 => .array .int
  | 9 => .array .int
  | 10 => .array .int
  | 11 => .array .int
  | 12 => .array .int
  | 13 => .array .int
  | 14 => .array .int
  | 15 => .array .int
  | 16 => .int
  | 17 => .int
  | 18 => .array .int
  | 19 => .array .int
  | 20 => .array .int
  | 21 => .int
  | 22 => .int
  | 23 => .boolean
  | 24 => .array .int
  | 25 => .array .int
  | 26 => .array .int
  | 27 => .array .int
  | 28 => .array .boolean
  | 29 => .int
  | 30 => .int
  | 31 => .int
  | 32 => .int
  | _ => .array .int
abbrev wsX110 : List Cond := u_ws RX11 TX11 34
theorem nmX11 : ∀ a, a < 34 → ∀ b, b < 34 → a ≠ b → (TX11 a).2.1 ≠ (TX11 b).2.1 := by decide +kernel
theorem tyX11_ok : ∀ k, k < 34 → parseFieldDescriptor (TX11 k).2.2.1 = some (tyX11 k) := by decide +kernel
abbrev cX11_init : ByteArray := prog_13_method_1_code
def yX11_init : MethodName := ⟨RX11, "<init>", "()V"⟩
abbrev cX11_begins : ByteArray := prog_13_method_2_code
def yX11_begins : MethodName := ⟨RX11, "begins", "([I)V"⟩
abbrev cX11_types : ByteArray := prog_13_method_3_code
def yX11_types : MethodName := ⟨RX11, "types", "(I)V"⟩
abbrev cX11_feed : ByteArray := prog_13_method_4_code
def yX11_feed : MethodName := ⟨RX11, "feed", "(IIIII)I"⟩
abbrev cX11_letterOf : ByteArray := prog_13_method_5_code
def yX11_letterOf : MethodName := ⟨RX11, "letterOf", "(I)I"⟩
abbrev cX11_canBe : ByteArray := prog_13_method_6_code
def yX11_canBe : MethodName := ⟨RX11, "canBe", "(II)Z"⟩
abbrev cX11_isDigit : ByteArray := prog_13_method_7_code
def yX11_isDigit : MethodName := ⟨RX11, "isDigit", "(II)Z"⟩
abbrev cX11_parse : ByteArray := prog_13_method_8_code
def yX11_parse : MethodName := ⟨RX11, "parse", "(I)I"⟩
abbrev cX11_law : ByteArray := prog_13_method_9_code
def yX11_law : MethodName := ⟨RX11, "law", "(I)I"⟩
abbrev cX11_rule : ByteArray := prog_13_method_10_code
def yX11_rule : MethodName := ⟨RX11, "rule", "(I)I"⟩
abbrev cX11_isCard : ByteArray := prog_13_method_11_code
def yX11_isCard : MethodName := ⟨RX11, "isCard", "(I)Z"⟩
abbrev cX11_isKind : ByteArray := prog_13_method_12_code
def yX11_isKind : MethodName := ⟨RX11, "isKind", "(II)Z"⟩
abbrev cX11_act : ByteArray := prog_13_method_13_code
def yX11_act : MethodName := ⟨RX11, "act", "(IIII)I"⟩
abbrev cX11_put : ByteArray := prog_13_method_14_code
def yX11_put : MethodName := ⟨RX11, "put", "(IIII)Z"⟩
abbrev cX11_trip : ByteArray := prog_13_method_15_code
def yX11_trip : MethodName := ⟨RX11, "trip", "(III)Z"⟩
abbrev cX11_isRest : ByteArray := prog_13_method_16_code
def yX11_isRest : MethodName := ⟨RX11, "isRest", "(IIZ)Z"⟩
abbrev cX11_readAs : ByteArray := prog_13_method_17_code
def yX11_readAs : MethodName := ⟨RX11, "readAs", "(IIZ)I"⟩
abbrev cX11_lays : ByteArray := prog_13_method_18_code
def yX11_lays : MethodName := ⟨RX11, "lays", "(IZ)V"⟩
abbrev cX11_runLength : ByteArray := prog_13_method_19_code
def yX11_runLength : MethodName := ⟨RX11, "runLength", "(I)I"⟩
abbrev cX11_tells : ByteArray := prog_13_method_20_code
def yX11_tells : MethodName := ⟨RX11, "tells", "(III)V"⟩
abbrev cX11_resets : ByteArray := prog_13_method_21_code
def yX11_resets : MethodName := ⟨RX11, "resets", "(I)Z"⟩
abbrev cX11_ruleOne : ByteArray := prog_13_method_22_code
def yX11_ruleOne : MethodName := ⟨RX11, "ruleOne", "()V"⟩
abbrev cX11_driveIn : ByteArray := prog_13_method_23_code
def yX11_driveIn : MethodName := ⟨RX11, "driveIn", "(II)I"⟩
abbrev cX11_goesAbove : ByteArray := prog_13_method_24_code
def yX11_goesAbove : MethodName := ⟨RX11, "goesAbove", "(II)I"⟩
abbrev cX11_finds : ByteArray := prog_13_method_25_code
def yX11_finds : MethodName := ⟨RX11, "finds", "()V"⟩
abbrev cX11_bits : ByteArray := prog_13_method_26_code
def yX11_bits : MethodName := ⟨RX11, "bits", "(I)I"⟩
abbrev cX11_isTaken : ByteArray := prog_13_method_27_code
def yX11_isTaken : MethodName := ⟨RX11, "isTaken", "(II)Z"⟩
abbrev cX11_mayBe : ByteArray := prog_13_method_28_code
def yX11_mayBe : MethodName := ⟨RX11, "mayBe", "(I)Z"⟩
abbrev cX11_parts : ByteArray := prog_13_method_29_code
def yX11_parts : MethodName := ⟨RX11, "parts", "(I)V"⟩
abbrev cX11_overOf : ByteArray := prog_13_method_30_code
def yX11_overOf : MethodName := ⟨RX11, "overOf", "(IZ)I"⟩
abbrev cX11_lateOf : ByteArray := prog_13_method_31_code
def yX11_lateOf : MethodName := ⟨RX11, "lateOf", "(I)I"⟩
abbrev cX11_extendsDays : ByteArray := prog_13_method_32_code
def yX11_extendsDays : MethodName := ⟨RX11, "extendsDays", "()V"⟩
abbrev cX11_reckons : ByteArray := prog_13_method_33_code
def yX11_reckons : MethodName := ⟨RX11, "reckons", "(I)V"⟩
abbrev cX11_chooses : ByteArray := prog_13_method_34_code
def yX11_chooses : MethodName := ⟨RX11, "chooses", "()V"⟩
abbrev cX11_isEarlier : ByteArray := prog_13_method_35_code
def yX11_isEarlier : MethodName := ⟨RX11, "isEarlier", "(II)Z"⟩
abbrev cX11_breaksLaw : ByteArray := prog_13_method_36_code
def yX11_breaksLaw : MethodName := ⟨RX11, "breaksLaw", "(IZ)V"⟩
abbrev cX11_breaches : ByteArray := prog_13_method_37_code
def yX11_breaches : MethodName := ⟨RX11, "breaches", "(IZ)I"⟩
abbrev cX11_breach : ByteArray := prog_13_method_38_code
def yX11_breach : MethodName := ⟨RX11, "breach", "(IZII)I"⟩
abbrev cX11_weight : ByteArray := prog_13_method_39_code
def yX11_weight : MethodName := ⟨RX11, "weight", "(IZ)I"⟩
abbrev cX11_day : ByteArray := prog_13_method_40_code
def yX11_day : MethodName := ⟨RX11, "day", "(IZII)I"⟩
abbrev cX11_open : ByteArray := prog_13_method_41_code
def yX11_open : MethodName := ⟨RX11, "open", "()I"⟩
abbrev cX11_may : ByteArray := prog_13_method_42_code
def yX11_may : MethodName := ⟨RX11, "may", "(IZ)I"⟩
abbrev cX11_lesser : ByteArray := prog_13_method_43_code
def yX11_lesser : MethodName := ⟨RX11, "lesser", "(II)I"⟩
abbrev cX11_wholeOr : ByteArray := prog_13_method_44_code
def yX11_wholeOr : MethodName := ⟨RX11, "wholeOr", "(Z)I"⟩
abbrev cX11_mostOf : ByteArray := prog_13_method_45_code
def yX11_mostOf : MethodName := ⟨RX11, "mostOf", "(III)I"⟩
abbrev cX11_greater : ByteArray := prog_13_method_46_code
def yX11_greater : MethodName := ⟨RX11, "greater", "(II)I"⟩
abbrev cX11_most : ByteArray := prog_13_method_47_code
def yX11_most : MethodName := ⟨RX11, "most", "(IZI)I"⟩
abbrev cX11_isOnTrip : ByteArray := prog_13_method_48_code
def yX11_isOnTrip : MethodName := ⟨RX11, "isOnTrip", "(II)Z"⟩
abbrev cX11_against : ByteArray := prog_13_method_49_code
def yX11_against : MethodName := ⟨RX11, "against", "(II)I"⟩
abbrev cX11_look : ByteArray := prog_13_method_50_code
def yX11_look : MethodName := ⟨RX11, "look", "(III)I"⟩
abbrev cX11_count : ByteArray := prog_13_method_51_code
def yX11_count : MethodName := ⟨RX11, "count", "(II)I"⟩
def RJx8e188 : String := "java/lang/Cloneable"
def TJx8e188 : u_T := fun k => match k with
  | _ => ("", "", "", false)
def tyJx8e188 : Nat → FieldType := fun k => match k with
  | _ => .int
abbrev wsJx8e1880 : List Cond := u_ws RJx8e188 TJx8e188 0
theorem nmJx8e188 : ∀ a, a < 0 → ∀ b, b < 0 → a ≠ b → (TJx8e188 a).2.1 ≠ (TJx8e188 b).2.1 := by decide +kernel
theorem tyJx8e188_ok : ∀ k, k < 0 → parseFieldDescriptor (TJx8e188 k).2.2.1 = some (tyJx8e188 k) := by decide +kernel
def RJ9 : String := "java/lang/Math"
def TJ9 : u_T := fun k => match k with
  | _ => ("", "", "", false)
def tyJ9 : Nat → FieldType := fun k => match k with
  | _ => .int
abbrev wsJ90 : List Cond := u_ws RJ9 TJ9 0
theorem nmJ9 : ∀ a, a < 0 → ∀ b, b < 0 → a ≠ b → (TJ9 a).2.1 ≠ (TJ9 b).2.1 := by decide +kernel
theorem tyJ9_ok : ∀ k, k < 0 → parseFieldDescriptor (TJ9 k).2.2.1 = some (tyJ9 k) := by decide +kernel
abbrev cJ9_max_7cf53 : ByteArray := prog_15_method_65_code
def yJ9_max_7cf53 : MethodName := ⟨RJ9, "max", "(II)I"⟩
abbrev cJ9_min_7cf53 : ByteArray := prog_15_method_69_code
def yJ9_min_7cf53 : MethodName := ⟨RJ9, "min", "(II)I"⟩
abbrev cJ9_min_f86c9 : ByteArray := prog_15_method_70_code
def yJ9_min_f86c9 : MethodName := ⟨RJ9, "min", "(JJ)J"⟩
def RJ10 : String := "java/lang/System"
def TJ10 : u_T := fun k => match k with
  | _ => ("", "", "", false)
def tyJ10 : Nat → FieldType := fun k => match k with
  | _ => .int
abbrev wsJ100 : List Cond := u_ws RJ10 TJ10 0
theorem nmJ10 : ∀ a, a < 0 → ∀ b, b < 0 → a ≠ b → (TJ10 a).2.1 ≠ (TJ10 b).2.1 := by decide +kernel
theorem tyJ10_ok : ∀ k, k < 0 → parseFieldDescriptor (TJ10 k).2.2.1 = some (tyJ10 k) := by decide +kernel
def RL : String := "WheelHoursLaw"
abbrev cL_law : ByteArray := code
def yL_law : MethodName := ⟨RL, "law", "([I)Z"⟩
abbrev vwCl : List vw_C := [(RX0, TX0, 4), (RX1, TX1, 4), (RX2, TX2, 6), (RX3, TX3, 8), (RX4, TX4, 2), (RX5, TX5, 12), (RX6, TX6, 9), (RX7, TX7, 2), (RX8, TX8, 3), (RX9, TX9, 4), (RX10, TX10, 10), (RX11, TX11, 34)]
end
section
def zW : List Cond := lw_tbl.filter goodWord
theorem zW_in {w : Cond} (i : Nat) (h : lw_tbl[i]? = some w) (g : goodWord w = true) : w ∈ zW := List.mem_filter.mpr ⟨List.mem_of_getElem? h, g⟩
theorem zW_u {C : String} {T : u_T} {N : Nat} (is : List Nat) (h : u_ws C T N = is.filterMap (fun i => lw_tbl[i]?)) (g : (u_ws C T N).all goodWord = true) : ∀ w ∈ u_ws C T N, w ∈ zW := by
  intro w hw
  have h1 := List.all_eq_true.mp g w hw
  rw [h] at hw
  obtain ⟨i, -, hi⟩ := List.mem_filterMap.mp hw
  exact zW_in i hi h1
theorem wse_X10_cardOf : Cond.selects RX10 yX10_cardOf yX10_cardOf ∈ zW := zW_in 0 (by decide +kernel) (by decide +kernel)
theorem wse_X10_tripsOf : Cond.selects RX10 yX10_tripsOf yX10_tripsOf ∈ zW := zW_in 1 (by decide +kernel) (by decide +kernel)
theorem wse_X10_findDays : Cond.selects RX10 yX10_findDays yX10_findDays ∈ zW := zW_in 2 (by decide +kernel) (by decide +kernel)
theorem wse_X1_isRest : Cond.selects RX1 yX1_isRest yX1_isRest ∈ zW := zW_in 3 (by decide +kernel) (by decide +kernel)
theorem wse_X6_addRest : Cond.selects RX6 yX6_addRest yX6_addRest ∈ zW := zW_in 4 (by decide +kernel) (by decide +kernel)
theorem wse_X5_findMarks : Cond.selects RX5 yX5_findMarks yX5_findMarks ∈ zW := zW_in 5 (by decide +kernel) (by decide +kernel)
theorem wse_X5_addMark : Cond.selects RX5 yX5_addMark yX5_addMark ∈ zW := zW_in 6 (by decide +kernel) (by decide +kernel)
theorem wse_X5_addRest : Cond.selects RX5 yX5_addRest yX5_addRest ∈ zW := zW_in 7 (by decide +kernel) (by decide +kernel)
theorem wse_X5_makeRoom : Cond.selects RX5 yX5_makeRoom yX5_makeRoom ∈ zW := zW_in 8 (by decide +kernel) (by decide +kernel)
theorem wse_X5_placeOf : Cond.selects RX5 yX5_placeOf yX5_placeOf ∈ zW := zW_in 9 (by decide +kernel) (by decide +kernel)
theorem wse_X5_findLeast : Cond.selects RX5 yX5_findLeast yX5_findLeast ∈ zW := zW_in 10 (by decide +kernel) (by decide +kernel)
theorem wse_X5_lastEnd : Cond.selects RX5 yX5_lastEnd yX5_lastEnd ∈ zW := zW_in 11 (by decide +kernel) (by decide +kernel)
theorem wse_X5_offer : Cond.selects RX5 yX5_offer yX5_offer ∈ zW := zW_in 12 (by decide +kernel) (by decide +kernel)
theorem wse_X5_priceOf : Cond.selects RX5 yX5_priceOf yX5_priceOf ∈ zW := zW_in 13 (by decide +kernel) (by decide +kernel)
theorem wse_X5_overOf : Cond.selects RX5 yX5_overOf yX5_overOf ∈ zW := zW_in 14 (by decide +kernel) (by decide +kernel)
theorem wse_X5_lateOf : Cond.selects RX5 yX5_lateOf yX5_lateOf ∈ zW := zW_in 15 (by decide +kernel) (by decide +kernel)
theorem wse_X5_takenLeft : Cond.selects RX5 yX5_takenLeft yX5_takenLeft ∈ zW := zW_in 16 (by decide +kernel) (by decide +kernel)
theorem wse_X5_extendedLeft : Cond.selects RX5 yX5_extendedLeft yX5_extendedLeft ∈ zW := zW_in 17 (by decide +kernel) (by decide +kernel)
theorem wse_X5_leastFrom : Cond.selects RX5 yX5_leastFrom yX5_leastFrom ∈ zW := zW_in 18 (by decide +kernel) (by decide +kernel)
theorem wse_X5_choiceAt : Cond.selects RX5 yX5_choiceAt yX5_choiceAt ∈ zW := zW_in 19 (by decide +kernel) (by decide +kernel)
theorem wse_X10_findBreaches : Cond.selects RX10 yX10_findBreaches yX10_findBreaches ∈ zW := zW_in 20 (by decide +kernel) (by decide +kernel)
theorem wse_X9_passRuns : Cond.selects RX9 yX9_passRuns yX9_passRuns ∈ zW := zW_in 21 (by decide +kernel) (by decide +kernel)
theorem wse_X9_passRun : Cond.selects RX9 yX9_passRun yX9_passRun ∈ zW := zW_in 22 (by decide +kernel) (by decide +kernel)
theorem wse_X9_frees : Cond.selects RX9 yX9_frees yX9_frees ∈ zW := zW_in 23 (by decide +kernel) (by decide +kernel)
theorem wse_X9_tellSpell : Cond.selects RX9 yX9_tellSpell yX9_tellSpell ∈ zW := zW_in 24 (by decide +kernel) (by decide +kernel)
theorem wse_X0_isBehind : Cond.selects RX0 yX0_isBehind yX0_isBehind ∈ zW := zW_in 25 (by decide +kernel) (by decide +kernel)
theorem wse_X10_tellOverInWeeks : Cond.selects RX10 yX10_tellOverInWeeks yX10_tellOverInWeeks ∈ zW := zW_in 26 (by decide +kernel) (by decide +kernel)
theorem wse_X9_mostBehindRest : Cond.selects RX9 yX9_mostBehindRest yX9_mostBehindRest ∈ zW := zW_in 27 (by decide +kernel) (by decide +kernel)
theorem wse_X9_breakFrom : Cond.selects RX9 yX9_breakFrom yX9_breakFrom ∈ zW := zW_in 28 (by decide +kernel) (by decide +kernel)
theorem wse_X9_mostInSpells : Cond.selects RX9 yX9_mostInSpells yX9_mostInSpells ∈ zW := zW_in 29 (by decide +kernel) (by decide +kernel)
theorem wse_X9_mostWithRestTo : Cond.selects RX9 yX9_mostWithRestTo yX9_mostWithRestTo ∈ zW := zW_in 30 (by decide +kernel) (by decide +kernel)
theorem wse_X2_startAgain : Cond.selects RX2 yX2_startAgain yX2_startAgain ∈ zW := zW_in 31 (by decide +kernel) (by decide +kernel)
theorem wse_X2_isDriven : Cond.selects RX2 yX2_isDriven yX2_isDriven ∈ zW := zW_in 32 (by decide +kernel) (by decide +kernel)
theorem wse_X2_isOnTrip : Cond.selects RX2 yX2_isOnTrip yX2_isOnTrip ∈ zW := zW_in 33 (by decide +kernel) (by decide +kernel)
theorem wse_X2_addMinutes : Cond.selects RX2 yX2_addMinutes yX2_addMinutes ∈ zW := zW_in 34 (by decide +kernel) (by decide +kernel)
theorem wse_X10_countOfAll : Cond.selects RX10 yX10_countOfAll yX10_countOfAll ∈ zW := zW_in 35 (by decide +kernel) (by decide +kernel)
theorem wse_X11_types : Cond.selects RX11 yX11_types yX11_types ∈ zW := zW_in 36 (by decide +kernel) (by decide +kernel)
theorem wse_X11_parse : Cond.selects RX11 yX11_parse yX11_parse ∈ zW := zW_in 37 (by decide +kernel) (by decide +kernel)
theorem wse_X11_isDigit : Cond.selects RX11 yX11_isDigit yX11_isDigit ∈ zW := zW_in 38 (by decide +kernel) (by decide +kernel)
theorem wse_X11_breaksLaw : Cond.selects RX11 yX11_breaksLaw yX11_breaksLaw ∈ zW := zW_in 39 (by decide +kernel) (by decide +kernel)
theorem wse_X11_lays : Cond.selects RX11 yX11_lays yX11_lays ∈ zW := zW_in 40 (by decide +kernel) (by decide +kernel)
theorem wse_X11_readAs : Cond.selects RX11 yX11_readAs yX11_readAs ∈ zW := zW_in 41 (by decide +kernel) (by decide +kernel)
theorem wse_X11_isRest : Cond.selects RX11 yX11_isRest yX11_isRest ∈ zW := zW_in 42 (by decide +kernel) (by decide +kernel)
theorem wse_X11_ruleOne : Cond.selects RX11 yX11_ruleOne yX11_ruleOne ∈ zW := zW_in 43 (by decide +kernel) (by decide +kernel)
theorem wse_X11_runLength : Cond.selects RX11 yX11_runLength yX11_runLength ∈ zW := zW_in 44 (by decide +kernel) (by decide +kernel)
theorem wse_X11_resets : Cond.selects RX11 yX11_resets yX11_resets ∈ zW := zW_in 45 (by decide +kernel) (by decide +kernel)
theorem wse_X11_tells : Cond.selects RX11 yX11_tells yX11_tells ∈ zW := zW_in 46 (by decide +kernel) (by decide +kernel)
theorem wse_X11_chooses : Cond.selects RX11 yX11_chooses yX11_chooses ∈ zW := zW_in 47 (by decide +kernel) (by decide +kernel)
theorem wse_X11_finds : Cond.selects RX11 yX11_finds yX11_finds ∈ zW := zW_in 48 (by decide +kernel) (by decide +kernel)
theorem wse_X11_reckons : Cond.selects RX11 yX11_reckons yX11_reckons ∈ zW := zW_in 49 (by decide +kernel) (by decide +kernel)
theorem wse_X11_parts : Cond.selects RX11 yX11_parts yX11_parts ∈ zW := zW_in 50 (by decide +kernel) (by decide +kernel)
theorem wse_X11_isTaken : Cond.selects RX11 yX11_isTaken yX11_isTaken ∈ zW := zW_in 51 (by decide +kernel) (by decide +kernel)
theorem wse_X11_extendsDays : Cond.selects RX11 yX11_extendsDays yX11_extendsDays ∈ zW := zW_in 52 (by decide +kernel) (by decide +kernel)
theorem wse_X11_overOf : Cond.selects RX11 yX11_overOf yX11_overOf ∈ zW := zW_in 53 (by decide +kernel) (by decide +kernel)
theorem wse_X11_driveIn : Cond.selects RX11 yX11_driveIn yX11_driveIn ∈ zW := zW_in 54 (by decide +kernel) (by decide +kernel)
theorem wse_X11_lateOf : Cond.selects RX11 yX11_lateOf yX11_lateOf ∈ zW := zW_in 55 (by decide +kernel) (by decide +kernel)
theorem wse_X11_mayBe : Cond.selects RX11 yX11_mayBe yX11_mayBe ∈ zW := zW_in 56 (by decide +kernel) (by decide +kernel)
theorem wse_X11_goesAbove : Cond.selects RX11 yX11_goesAbove yX11_goesAbove ∈ zW := zW_in 57 (by decide +kernel) (by decide +kernel)
theorem wse_X11_open : Cond.selects RX11 yX11_open yX11_open ∈ zW := zW_in 58 (by decide +kernel) (by decide +kernel)
theorem wse_X11_wholeOr : Cond.selects RX11 yX11_wholeOr yX11_wholeOr ∈ zW := zW_in 59 (by decide +kernel) (by decide +kernel)
theorem wse_X11_mostOf : Cond.selects RX11 yX11_mostOf yX11_mostOf ∈ zW := zW_in 60 (by decide +kernel) (by decide +kernel)
theorem wse_X11_isOnTrip : Cond.selects RX11 yX11_isOnTrip yX11_isOnTrip ∈ zW := zW_in 61 (by decide +kernel) (by decide +kernel)
theorem win_RL : Cond.initialized RL ∈ zW := zW_in 62 (by decide +kernel) (by decide +kernel)
theorem win_RX10 : Cond.initialized RX10 ∈ zW := zW_in 63 (by decide +kernel) (by decide +kernel)
theorem win_RX7 : Cond.initialized RX7 ∈ zW := zW_in 64 (by decide +kernel) (by decide +kernel)
theorem win_RX4 : Cond.initialized RX4 ∈ zW := zW_in 65 (by decide +kernel) (by decide +kernel)
theorem win_RX1 : Cond.initialized RX1 ∈ zW := zW_in 66 (by decide +kernel) (by decide +kernel)
theorem win_RX8 : Cond.initialized RX8 ∈ zW := zW_in 67 (by decide +kernel) (by decide +kernel)
theorem win_RX6 : Cond.initialized RX6 ∈ zW := zW_in 68 (by decide +kernel) (by decide +kernel)
theorem win_RX9 : Cond.initialized RX9 ∈ zW := zW_in 69 (by decide +kernel) (by decide +kernel)
theorem win_RX3 : Cond.initialized RX3 ∈ zW := zW_in 70 (by decide +kernel) (by decide +kernel)
theorem win_RX5 : Cond.initialized RX5 ∈ zW := zW_in 71 (by decide +kernel) (by decide +kernel)
theorem win_RX0 : Cond.initialized RX0 ∈ zW := zW_in 72 (by decide +kernel) (by decide +kernel)
theorem win_RX2 : Cond.initialized RX2 ∈ zW := zW_in 73 (by decide +kernel) (by decide +kernel)
theorem win_RX11 : Cond.initialized RX11 ∈ zW := zW_in 74 (by decide +kernel) (by decide +kernel)
theorem win_RJ9 : Cond.initialized RJ9 ∈ zW := zW_in 75 (by decide +kernel) (by decide +kernel)
theorem win_RJ10 : Cond.initialized RJ10 ∈ zW := zW_in 76 (by decide +kernel) (by decide +kernel)
theorem wcl_RL_7 : Cond.classLink RL 7 RX10 ∈ zW := zW_in 77 (by decide +kernel) (by decide +kernel)
theorem wis_RX10 : Cond.instantiable RX10 10 ∈ zW := zW_in 78 (by decide +kernel) (by decide +kernel)
theorem wml_RL_9 : Cond.methodLink RL 9 yX10_init ∈ zW := zW_in 79 (by decide +kernel) (by decide +kernel)
theorem wim_X10_init : Cond.instanceMethod yX10_init ∈ zW := zW_in 80 (by decide +kernel) (by decide +kernel)
theorem wco_X10_init : Cond.code yX10_init cX10_init 2 ((Option.none : Option FieldType)) ∈ zW := zW_in 81 (by decide +kernel) (by decide +kernel)
theorem wml_RX10_1 : Cond.methodLink RX10 1 objectInit ∈ zW := zW_in 82 (by decide +kernel) (by decide +kernel)
theorem wcl_RX10_7 : Cond.classLink RX10 7 RX7 ∈ zW := zW_in 85 (by decide +kernel) (by decide +kernel)
theorem wis_RX7 : Cond.instantiable RX7 2 ∈ zW := zW_in 86 (by decide +kernel) (by decide +kernel)
theorem wim_X7_init : Cond.instanceMethod yX7_init ∈ zW := zW_in 88 (by decide +kernel) (by decide +kernel)
theorem wco_X7_init : Cond.code yX7_init cX7_init 1 ((Option.none : Option FieldType)) ∈ zW := zW_in 89 (by decide +kernel) (by decide +kernel)
theorem wml_RX7_1 : Cond.methodLink RX7 1 objectInit ∈ zW := zW_in 90 (by decide +kernel) (by decide +kernel)
theorem wfl_RX7_9 : Cond.fieldLink RX7 9 "WheelHours$Tape" "bytes" "[I" ∈ zW := zW_in 91 (by decide +kernel) (by decide +kernel)
theorem wfl_RX10_95 : Cond.fieldLink RX10 95 "WheelHours$Tape" "bytes" "[I" ∈ zW := zW_in 92 (by decide +kernel) (by decide +kernel)
theorem wfl_RX7_13 : Cond.fieldLink RX7 13 "WheelHours$Tape" "size" "I" ∈ zW := zW_in 93 (by decide +kernel) (by decide +kernel)
theorem wfl_RX10_91 : Cond.fieldLink RX10 91 "WheelHours$Tape" "size" "I" ∈ zW := zW_in 94 (by decide +kernel) (by decide +kernel)
theorem wac_int : Cond.arrayClass .int ∈ zW := zW_in 100 (by decide +kernel) (by decide +kernel)
theorem wcl_RX10_16 : Cond.classLink RX10 16 RX4 ∈ zW := zW_in 101 (by decide +kernel) (by decide +kernel)
theorem wis_RX4 : Cond.instantiable RX4 2 ∈ zW := zW_in 102 (by decide +kernel) (by decide +kernel)
theorem wim_X4_init : Cond.instanceMethod yX4_init ∈ zW := zW_in 104 (by decide +kernel) (by decide +kernel)
theorem wco_X4_init : Cond.code yX4_init cX4_init 1 ((Option.none : Option FieldType)) ∈ zW := zW_in 105 (by decide +kernel) (by decide +kernel)
theorem wml_RX4_3 : Cond.methodLink RX4 3 objectInit ∈ zW := zW_in 106 (by decide +kernel) (by decide +kernel)
theorem wfl_RX4_9 : Cond.fieldLink RX4 9 "WheelHours$Law" "AT_FIRST" "[I" ∈ zW := zW_in 107 (by decide +kernel) (by decide +kernel)
theorem wml_RX4_15 : Cond.methodLink RX4 15 ⟨"[I", "clone", "()Ljava/lang/Object;"⟩ ∈ zW := zW_in 109 (by decide +kernel) (by decide +kernel)
theorem wcl_RX4_16 : Cond.classLink RX4 16 "[I" ∈ zW := zW_in 115 (by decide +kernel) (by decide +kernel)
theorem wfl_RX4_20 : Cond.fieldLink RX4 20 "WheelHours$Law" "numbers" "[I" ∈ zW := zW_in 116 (by decide +kernel) (by decide +kernel)
theorem wfl_RX9_27 : Cond.fieldLink RX9 27 "WheelHours$Law" "numbers" "[I" ∈ zW := zW_in 117 (by decide +kernel) (by decide +kernel)
theorem wfl_RX5_78 : Cond.fieldLink RX5 78 "WheelHours$Law" "numbers" "[I" ∈ zW := zW_in 118 (by decide +kernel) (by decide +kernel)
theorem wfl_RX10_107 : Cond.fieldLink RX10 107 "WheelHours$Law" "numbers" "[I" ∈ zW := zW_in 119 (by decide +kernel) (by decide +kernel)
theorem wfl_RX3_37 : Cond.fieldLink RX3 37 "WheelHours$Law" "numbers" "[I" ∈ zW := zW_in 120 (by decide +kernel) (by decide +kernel)
theorem wfl_RX4_23 : Cond.fieldLink RX4 23 "WheelHours$Law" "told" "[I" ∈ zW := zW_in 121 (by decide +kernel) (by decide +kernel)
theorem wcl_RX10_23 : Cond.classLink RX10 23 RX1 ∈ zW := zW_in 127 (by decide +kernel) (by decide +kernel)
theorem wis_RX1 : Cond.instantiable RX1 4 ∈ zW := zW_in 129 (by decide +kernel) (by decide +kernel)
theorem wim_X1_init : Cond.instanceMethod yX1_init ∈ zW := zW_in 131 (by decide +kernel) (by decide +kernel)
theorem wco_X1_init : Cond.code yX1_init cX1_init 1 ((Option.none : Option FieldType)) ∈ zW := zW_in 132 (by decide +kernel) (by decide +kernel)
theorem wml_RX1_3 : Cond.methodLink RX1 3 objectInit ∈ zW := zW_in 133 (by decide +kernel) (by decide +kernel)
theorem wfl_RX1_9 : Cond.fieldLink RX1 9 "WheelHours$Card" "kind" "[I" ∈ zW := zW_in 134 (by decide +kernel) (by decide +kernel)
theorem wfl_RX10_176 : Cond.fieldLink RX10 176 "WheelHours$Card" "kind" "[I" ∈ zW := zW_in 135 (by decide +kernel) (by decide +kernel)
theorem wfl_RX1_15 : Cond.fieldLink RX1 15 "WheelHours$Card" "vehicle" "[I" ∈ zW := zW_in 136 (by decide +kernel) (by decide +kernel)
theorem wfl_RX10_182 : Cond.fieldLink RX10 182 "WheelHours$Card" "vehicle" "[I" ∈ zW := zW_in 137 (by decide +kernel) (by decide +kernel)
theorem wfl_RX1_18 : Cond.fieldLink RX1 18 "WheelHours$Card" "begin" "[I" ∈ zW := zW_in 138 (by decide +kernel) (by decide +kernel)
theorem wfl_RX6_43 : Cond.fieldLink RX6 43 "WheelHours$Card" "begin" "[I" ∈ zW := zW_in 139 (by decide +kernel) (by decide +kernel)
theorem wfl_RX2_53 : Cond.fieldLink RX2 53 "WheelHours$Card" "begin" "[I" ∈ zW := zW_in 140 (by decide +kernel) (by decide +kernel)
theorem wfl_RX10_179 : Cond.fieldLink RX10 179 "WheelHours$Card" "begin" "[I" ∈ zW := zW_in 141 (by decide +kernel) (by decide +kernel)
theorem wfl_RX1_21 : Cond.fieldLink RX1 21 "WheelHours$Card" "acts" "I" ∈ zW := zW_in 142 (by decide +kernel) (by decide +kernel)
theorem wfl_RX6_40 : Cond.fieldLink RX6 40 "WheelHours$Card" "acts" "I" ∈ zW := zW_in 143 (by decide +kernel) (by decide +kernel)
theorem wfl_RX2_48 : Cond.fieldLink RX2 48 "WheelHours$Card" "acts" "I" ∈ zW := zW_in 144 (by decide +kernel) (by decide +kernel)
theorem wcl_RX10_30 : Cond.classLink RX10 30 RX8 ∈ zW := zW_in 154 (by decide +kernel) (by decide +kernel)
theorem wis_RX8 : Cond.instantiable RX8 3 ∈ zW := zW_in 156 (by decide +kernel) (by decide +kernel)
theorem wim_X8_init : Cond.instanceMethod yX8_init ∈ zW := zW_in 158 (by decide +kernel) (by decide +kernel)
theorem wco_X8_init : Cond.code yX8_init cX8_init 1 ((Option.none : Option FieldType)) ∈ zW := zW_in 159 (by decide +kernel) (by decide +kernel)
theorem wml_RX8_1 : Cond.methodLink RX8 1 objectInit ∈ zW := zW_in 160 (by decide +kernel) (by decide +kernel)
theorem wfl_RX8_9 : Cond.fieldLink RX8 9 "WheelHours$Trips" "from" "[I" ∈ zW := zW_in 161 (by decide +kernel) (by decide +kernel)
theorem wfl_RX2_72 : Cond.fieldLink RX2 72 "WheelHours$Trips" "from" "[I" ∈ zW := zW_in 162 (by decide +kernel) (by decide +kernel)
theorem wfl_RX8_13 : Cond.fieldLink RX8 13 "WheelHours$Trips" "to" "[I" ∈ zW := zW_in 163 (by decide +kernel) (by decide +kernel)
theorem wfl_RX2_69 : Cond.fieldLink RX2 69 "WheelHours$Trips" "to" "[I" ∈ zW := zW_in 164 (by decide +kernel) (by decide +kernel)
theorem wfl_RX8_16 : Cond.fieldLink RX8 16 "WheelHours$Trips" "size" "I" ∈ zW := zW_in 165 (by decide +kernel) (by decide +kernel)
theorem wfl_RX2_66 : Cond.fieldLink RX2 66 "WheelHours$Trips" "size" "I" ∈ zW := zW_in 166 (by decide +kernel) (by decide +kernel)
theorem wfl_RX10_203 : Cond.fieldLink RX10 203 "WheelHours$Trips" "size" "I" ∈ zW := zW_in 167 (by decide +kernel) (by decide +kernel)
theorem wcl_RX10_37 : Cond.classLink RX10 37 RX6 ∈ zW := zW_in 175 (by decide +kernel) (by decide +kernel)
theorem wis_RX6 : Cond.instantiable RX6 9 ∈ zW := zW_in 176 (by decide +kernel) (by decide +kernel)
theorem wim_X6_init : Cond.instanceMethod yX6_init ∈ zW := zW_in 178 (by decide +kernel) (by decide +kernel)
theorem wco_X6_init : Cond.code yX6_init cX6_init 1 ((Option.none : Option FieldType)) ∈ zW := zW_in 179 (by decide +kernel) (by decide +kernel)
theorem wml_RX6_3 : Cond.methodLink RX6 3 objectInit ∈ zW := zW_in 180 (by decide +kernel) (by decide +kernel)
theorem wfl_RX6_9 : Cond.fieldLink RX6 9 "WheelHours$Reading" "kind" "[I" ∈ zW := zW_in 181 (by decide +kernel) (by decide +kernel)
theorem wfl_RX6_15 : Cond.fieldLink RX6 15 "WheelHours$Reading" "begin" "[I" ∈ zW := zW_in 182 (by decide +kernel) (by decide +kernel)
theorem wfl_RX6_18 : Cond.fieldLink RX6 18 "WheelHours$Reading" "runFrom" "[I" ∈ zW := zW_in 183 (by decide +kernel) (by decide +kernel)
theorem wfl_RX5_108 : Cond.fieldLink RX5 108 "WheelHours$Reading" "runFrom" "[I" ∈ zW := zW_in 184 (by decide +kernel) (by decide +kernel)
theorem wfl_RX6_21 : Cond.fieldLink RX6 21 "WheelHours$Reading" "runTo" "[I" ∈ zW := zW_in 185 (by decide +kernel) (by decide +kernel)
theorem wfl_RX5_102 : Cond.fieldLink RX5 102 "WheelHours$Reading" "runTo" "[I" ∈ zW := zW_in 186 (by decide +kernel) (by decide +kernel)
theorem wfl_RX6_24 : Cond.fieldLink RX6 24 "WheelHours$Reading" "runDrive" "[I" ∈ zW := zW_in 187 (by decide +kernel) (by decide +kernel)
theorem wfl_RX9_43 : Cond.fieldLink RX9 43 "WheelHours$Reading" "runDrive" "[I" ∈ zW := zW_in 188 (by decide +kernel) (by decide +kernel)
theorem wfl_RX5_105 : Cond.fieldLink RX5 105 "WheelHours$Reading" "runDrive" "[I" ∈ zW := zW_in 189 (by decide +kernel) (by decide +kernel)
theorem wfl_RX6_27 : Cond.fieldLink RX6 27 "WheelHours$Reading" "acts" "I" ∈ zW := zW_in 190 (by decide +kernel) (by decide +kernel)
theorem wfl_RX10_188 : Cond.fieldLink RX10 188 "WheelHours$Reading" "acts" "I" ∈ zW := zW_in 191 (by decide +kernel) (by decide +kernel)
theorem wfl_RX6_31 : Cond.fieldLink RX6 31 "WheelHours$Reading" "total" "I" ∈ zW := zW_in 192 (by decide +kernel) (by decide +kernel)
theorem wfl_RX5_91 : Cond.fieldLink RX5 91 "WheelHours$Reading" "total" "I" ∈ zW := zW_in 193 (by decide +kernel) (by decide +kernel)
theorem wfl_RX10_191 : Cond.fieldLink RX10 191 "WheelHours$Reading" "total" "I" ∈ zW := zW_in 194 (by decide +kernel) (by decide +kernel)
theorem wfl_RX6_34 : Cond.fieldLink RX6 34 "WheelHours$Reading" "drive" "I" ∈ zW := zW_in 195 (by decide +kernel) (by decide +kernel)
theorem wfl_RX5_94 : Cond.fieldLink RX5 94 "WheelHours$Reading" "drive" "I" ∈ zW := zW_in 196 (by decide +kernel) (by decide +kernel)
theorem wfl_RX9_60 : Cond.fieldLink RX9 60 "WheelHours$Reading" "drive" "I" ∈ zW := zW_in 197 (by decide +kernel) (by decide +kernel)
theorem wfl_RX10_194 : Cond.fieldLink RX10 194 "WheelHours$Reading" "drive" "I" ∈ zW := zW_in 198 (by decide +kernel) (by decide +kernel)
theorem wfl_RX6_37 : Cond.fieldLink RX6 37 "WheelHours$Reading" "runs" "I" ∈ zW := zW_in 199 (by decide +kernel) (by decide +kernel)
theorem wfl_RX5_69 : Cond.fieldLink RX5 69 "WheelHours$Reading" "runs" "I" ∈ zW := zW_in 200 (by decide +kernel) (by decide +kernel)
theorem wfl_RX9_53 : Cond.fieldLink RX9 53 "WheelHours$Reading" "runs" "I" ∈ zW := zW_in 201 (by decide +kernel) (by decide +kernel)
theorem wfl_RX10_197 : Cond.fieldLink RX10 197 "WheelHours$Reading" "runs" "I" ∈ zW := zW_in 202 (by decide +kernel) (by decide +kernel)
theorem wcl_RX10_44 : Cond.classLink RX10 44 RX9 ∈ zW := zW_in 222 (by decide +kernel) (by decide +kernel)
theorem wis_RX9 : Cond.instantiable RX9 4 ∈ zW := zW_in 223 (by decide +kernel) (by decide +kernel)
theorem wml_RX10_46 : Cond.methodLink RX10 46 yX9_init ∈ zW := zW_in 224 (by decide +kernel) (by decide +kernel)
theorem wim_X9_init : Cond.instanceMethod yX9_init ∈ zW := zW_in 225 (by decide +kernel) (by decide +kernel)
theorem wco_X9_init : Cond.code yX9_init cX9_init 3 ((Option.none : Option FieldType)) ∈ zW := zW_in 226 (by decide +kernel) (by decide +kernel)
theorem wml_RX9_3 : Cond.methodLink RX9 3 objectInit ∈ zW := zW_in 227 (by decide +kernel) (by decide +kernel)
theorem wfl_RX9_19 : Cond.fieldLink RX9 19 "WheelHours$Wheel" "laws" "LWheelHours$Law;" ∈ zW := zW_in 228 (by decide +kernel) (by decide +kernel)
theorem wfl_RX9_23 : Cond.fieldLink RX9 23 "WheelHours$Wheel" "reading" "LWheelHours$Reading;" ∈ zW := zW_in 229 (by decide +kernel) (by decide +kernel)
theorem wfl_RX9_9 : Cond.fieldLink RX9 9 "WheelHours$Wheel" "base" "I" ∈ zW := zW_in 230 (by decide +kernel) (by decide +kernel)
theorem wfl_RX9_15 : Cond.fieldLink RX9 15 "WheelHours$Wheel" "parted" "Z" ∈ zW := zW_in 231 (by decide +kernel) (by decide +kernel)
theorem wcl_RX10_53 : Cond.classLink RX10 53 RX3 ∈ zW := zW_in 241 (by decide +kernel) (by decide +kernel)
theorem wis_RX3 : Cond.instantiable RX3 8 ∈ zW := zW_in 242 (by decide +kernel) (by decide +kernel)
theorem wim_X3_init : Cond.instanceMethod yX3_init ∈ zW := zW_in 244 (by decide +kernel) (by decide +kernel)
theorem wco_X3_init : Cond.code yX3_init cX3_init 1 ((Option.none : Option FieldType)) ∈ zW := zW_in 245 (by decide +kernel) (by decide +kernel)
theorem wml_RX3_3 : Cond.methodLink RX3 3 objectInit ∈ zW := zW_in 246 (by decide +kernel) (by decide +kernel)
theorem wfl_RX3_11 : Cond.fieldLink RX3 11 "WheelHours$Days" "from" "[I" ∈ zW := zW_in 247 (by decide +kernel) (by decide +kernel)
theorem wfl_RX3_15 : Cond.fieldLink RX3 15 "WheelHours$Days" "to" "[I" ∈ zW := zW_in 248 (by decide +kernel) (by decide +kernel)
theorem wfl_RX3_18 : Cond.fieldLink RX3 18 "WheelHours$Days" "drive" "[I" ∈ zW := zW_in 249 (by decide +kernel) (by decide +kernel)
theorem wfl_RX3_21 : Cond.fieldLink RX3 21 "WheelHours$Days" "extended" "[I" ∈ zW := zW_in 250 (by decide +kernel) (by decide +kernel)
theorem wfl_RX3_24 : Cond.fieldLink RX3 24 "WheelHours$Days" "endedBy" "[I" ∈ zW := zW_in 251 (by decide +kernel) (by decide +kernel)
theorem wfl_RX3_27 : Cond.fieldLink RX3 27 "WheelHours$Days" "over" "[I" ∈ zW := zW_in 252 (by decide +kernel) (by decide +kernel)
theorem wfl_RX3_30 : Cond.fieldLink RX3 30 "WheelHours$Days" "late" "[I" ∈ zW := zW_in 253 (by decide +kernel) (by decide +kernel)
theorem wfl_RX3_33 : Cond.fieldLink RX3 33 "WheelHours$Days" "size" "I" ∈ zW := zW_in 254 (by decide +kernel) (by decide +kernel)
theorem wfl_RX5_153 : Cond.fieldLink RX5 153 "WheelHours$Days" "size" "I" ∈ zW := zW_in 255 (by decide +kernel) (by decide +kernel)
theorem wcl_RX10_60 : Cond.classLink RX10 60 RX5 ∈ zW := zW_in 273 (by decide +kernel) (by decide +kernel)
theorem wis_RX5 : Cond.instantiable RX5 12 ∈ zW := zW_in 274 (by decide +kernel) (by decide +kernel)
theorem wml_RX10_62 : Cond.methodLink RX10 62 yX5_init ∈ zW := zW_in 275 (by decide +kernel) (by decide +kernel)
theorem wim_X5_init : Cond.instanceMethod yX5_init ∈ zW := zW_in 276 (by decide +kernel) (by decide +kernel)
theorem wco_X5_init : Cond.code yX5_init cX5_init 4 ((Option.none : Option FieldType)) ∈ zW := zW_in 277 (by decide +kernel) (by decide +kernel)
theorem wml_RX5_3 : Cond.methodLink RX5 3 objectInit ∈ zW := zW_in 278 (by decide +kernel) (by decide +kernel)
theorem wfl_RX5_41 : Cond.fieldLink RX5 41 "WheelHours$Planner" "laws" "LWheelHours$Law;" ∈ zW := zW_in 279 (by decide +kernel) (by decide +kernel)
theorem wfl_RX5_45 : Cond.fieldLink RX5 45 "WheelHours$Planner" "reading" "LWheelHours$Reading;" ∈ zW := zW_in 280 (by decide +kernel) (by decide +kernel)
theorem wfl_RX5_49 : Cond.fieldLink RX5 49 "WheelHours$Planner" "days" "LWheelHours$Days;" ∈ zW := zW_in 281 (by decide +kernel) (by decide +kernel)
theorem wfl_RX5_11 : Cond.fieldLink RX5 11 "WheelHours$Planner" "minute" "[I" ∈ zW := zW_in 282 (by decide +kernel) (by decide +kernel)
theorem wfl_RX5_15 : Cond.fieldLink RX5 15 "WheelHours$Planner" "drive" "[I" ∈ zW := zW_in 283 (by decide +kernel) (by decide +kernel)
theorem wfl_RX5_18 : Cond.fieldLink RX5 18 "WheelHours$Planner" "enough" "[I" ∈ zW := zW_in 284 (by decide +kernel) (by decide +kernel)
theorem wfl_RX5_21 : Cond.fieldLink RX5 21 "WheelHours$Planner" "endedBy" "[I" ∈ zW := zW_in 285 (by decide +kernel) (by decide +kernel)
theorem wfl_RX5_24 : Cond.fieldLink RX5 24 "WheelHours$Planner" "ownPrice" "[J" ∈ zW := zW_in 286 (by decide +kernel) (by decide +kernel)
theorem wfl_RX5_28 : Cond.fieldLink RX5 28 "WheelHours$Planner" "marks" "I" ∈ zW := zW_in 287 (by decide +kernel) (by decide +kernel)
theorem wfl_RX5_32 : Cond.fieldLink RX5 32 "WheelHours$Planner" "mostTaken" "I" ∈ zW := zW_in 288 (by decide +kernel) (by decide +kernel)
theorem wfl_RX5_35 : Cond.fieldLink RX5 35 "WheelHours$Planner" "mostExtended" "I" ∈ zW := zW_in 289 (by decide +kernel) (by decide +kernel)
theorem wfl_RX5_38 : Cond.fieldLink RX5 38 "WheelHours$Planner" "least" "[J" ∈ zW := zW_in 290 (by decide +kernel) (by decide +kernel)
theorem wac_long : Cond.arrayClass .long ∈ zW := zW_in 316 (by decide +kernel) (by decide +kernel)
theorem wcl_RX10_69 : Cond.classLink RX10 69 RX0 ∈ zW := zW_in 317 (by decide +kernel) (by decide +kernel)
theorem wis_RX0 : Cond.instantiable RX0 4 ∈ zW := zW_in 318 (by decide +kernel) (by decide +kernel)
theorem wim_X0_init : Cond.instanceMethod yX0_init ∈ zW := zW_in 320 (by decide +kernel) (by decide +kernel)
theorem wco_X0_init : Cond.code yX0_init cX0_init 1 ((Option.none : Option FieldType)) ∈ zW := zW_in 321 (by decide +kernel) (by decide +kernel)
theorem wml_RX0_3 : Cond.methodLink RX0 3 objectInit ∈ zW := zW_in 322 (by decide +kernel) (by decide +kernel)
theorem wfl_RX0_11 : Cond.fieldLink RX0 11 "WheelHours$Breaches" "minute" "[I" ∈ zW := zW_in 323 (by decide +kernel) (by decide +kernel)
theorem wfl_RX0_15 : Cond.fieldLink RX0 15 "WheelHours$Breaches" "rule" "[I" ∈ zW := zW_in 324 (by decide +kernel) (by decide +kernel)
theorem wfl_RX0_18 : Cond.fieldLink RX0 18 "WheelHours$Breaches" "much" "[I" ∈ zW := zW_in 325 (by decide +kernel) (by decide +kernel)
theorem wfl_RX0_21 : Cond.fieldLink RX0 21 "WheelHours$Breaches" "size" "I" ∈ zW := zW_in 326 (by decide +kernel) (by decide +kernel)
theorem wfl_RX10_145 : Cond.fieldLink RX10 145 "WheelHours$Breaches" "size" "I" ∈ zW := zW_in 327 (by decide +kernel) (by decide +kernel)
theorem wcl_RX10_76 : Cond.classLink RX10 76 RX2 ∈ zW := zW_in 337 (by decide +kernel) (by decide +kernel)
theorem wis_RX2 : Cond.instantiable RX2 6 ∈ zW := zW_in 338 (by decide +kernel) (by decide +kernel)
theorem wim_X2_init : Cond.instanceMethod yX2_init ∈ zW := zW_in 340 (by decide +kernel) (by decide +kernel)
theorem wco_X2_init : Cond.code yX2_init cX2_init 1 ((Option.none : Option FieldType)) ∈ zW := zW_in 341 (by decide +kernel) (by decide +kernel)
theorem wml_RX2_5 : Cond.methodLink RX2 5 objectInit ∈ zW := zW_in 342 (by decide +kernel) (by decide +kernel)
theorem wfl_RX2_11 : Cond.fieldLink RX2 11 "WheelHours$Comparison" "actAt" "[I" ∈ zW := zW_in 343 (by decide +kernel) (by decide +kernel)
theorem wfl_RX2_17 : Cond.fieldLink RX2 17 "WheelHours$Comparison" "tripAt" "I" ∈ zW := zW_in 344 (by decide +kernel) (by decide +kernel)
theorem wfl_RX2_21 : Cond.fieldLink RX2 21 "WheelHours$Comparison" "next" "I" ∈ zW := zW_in 345 (by decide +kernel) (by decide +kernel)
theorem wfl_RX2_24 : Cond.fieldLink RX2 24 "WheelHours$Comparison" "withoutCard" "I" ∈ zW := zW_in 346 (by decide +kernel) (by decide +kernel)
theorem wfl_RX10_167 : Cond.fieldLink RX10 167 "WheelHours$Comparison" "withoutCard" "I" ∈ zW := zW_in 347 (by decide +kernel) (by decide +kernel)
theorem wfl_RX2_27 : Cond.fieldLink RX2 27 "WheelHours$Comparison" "withMoreCards" "I" ∈ zW := zW_in 348 (by decide +kernel) (by decide +kernel)
theorem wfl_RX10_170 : Cond.fieldLink RX10 170 "WheelHours$Comparison" "withMoreCards" "I" ∈ zW := zW_in 349 (by decide +kernel) (by decide +kernel)
theorem wfl_RX2_30 : Cond.fieldLink RX2 30 "WheelHours$Comparison" "withoutTrip" "I" ∈ zW := zW_in 350 (by decide +kernel) (by decide +kernel)
theorem wfl_RX10_173 : Cond.fieldLink RX10 173 "WheelHours$Comparison" "withoutTrip" "I" ∈ zW := zW_in 351 (by decide +kernel) (by decide +kernel)
theorem wfl_RX10_10 : Cond.fieldLink RX10 10 "WheelHours" "tape" "LWheelHours$Tape;" ∈ zW := zW_in 365 (by decide +kernel) (by decide +kernel)
theorem wfl_RX10_19 : Cond.fieldLink RX10 19 "WheelHours" "laws" "LWheelHours$Law;" ∈ zW := zW_in 366 (by decide +kernel) (by decide +kernel)
theorem wfl_RX10_25 : Cond.fieldLink RX10 25 "WheelHours" "cards" "[LWheelHours$Card;" ∈ zW := zW_in 367 (by decide +kernel) (by decide +kernel)
theorem wfl_RX10_32 : Cond.fieldLink RX10 32 "WheelHours" "trips" "[LWheelHours$Trips;" ∈ zW := zW_in 368 (by decide +kernel) (by decide +kernel)
theorem wfl_RX10_40 : Cond.fieldLink RX10 40 "WheelHours" "reading" "LWheelHours$Reading;" ∈ zW := zW_in 369 (by decide +kernel) (by decide +kernel)
theorem wfl_RX10_49 : Cond.fieldLink RX10 49 "WheelHours" "wheel" "LWheelHours$Wheel;" ∈ zW := zW_in 370 (by decide +kernel) (by decide +kernel)
theorem wfl_RX10_56 : Cond.fieldLink RX10 56 "WheelHours" "days" "LWheelHours$Days;" ∈ zW := zW_in 371 (by decide +kernel) (by decide +kernel)
theorem wfl_RX10_65 : Cond.fieldLink RX10 65 "WheelHours" "planner" "LWheelHours$Planner;" ∈ zW := zW_in 372 (by decide +kernel) (by decide +kernel)
theorem wfl_RX10_72 : Cond.fieldLink RX10 72 "WheelHours" "found" "LWheelHours$Breaches;" ∈ zW := zW_in 373 (by decide +kernel) (by decide +kernel)
theorem wfl_RX10_79 : Cond.fieldLink RX10 79 "WheelHours" "comparison" "LWheelHours$Comparison;" ∈ zW := zW_in 374 (by decide +kernel) (by decide +kernel)
theorem wml_RL_13 : Cond.methodLink RL 13 yX10_feed ∈ zW := zW_in 396 (by decide +kernel) (by decide +kernel)
theorem wim_X10_feed : Cond.instanceMethod yX10_feed ∈ zW := zW_in 397 (by decide +kernel) (by decide +kernel)
theorem wse_X10_feed : Cond.selects RX10 yX10_feed yX10_feed ∈ zW := zW_in 398 (by decide +kernel) (by decide +kernel)
theorem wco_X10_feed : Cond.code yX10_feed cX10_feed 6 ((Option.some FieldType.int)) ∈ zW := zW_in 399 (by decide +kernel) (by decide +kernel)
theorem wml_RX10_83 : Cond.methodLink RX10 83 yX7_hasRoom ∈ zW := zW_in 400 (by decide +kernel) (by decide +kernel)
theorem wim_X7_hasRoom : Cond.instanceMethod yX7_hasRoom ∈ zW := zW_in 401 (by decide +kernel) (by decide +kernel)
theorem wse_X7_hasRoom : Cond.selects RX7 yX7_hasRoom yX7_hasRoom ∈ zW := zW_in 402 (by decide +kernel) (by decide +kernel)
theorem wco_X7_hasRoom : Cond.code yX7_hasRoom cX7_hasRoom 1 ((Option.some FieldType.boolean)) ∈ zW := zW_in 403 (by decide +kernel) (by decide +kernel)
theorem wml_RX10_87 : Cond.methodLink RX10 87 yX7_append ∈ zW := zW_in 404 (by decide +kernel) (by decide +kernel)
theorem wim_X7_append : Cond.instanceMethod yX7_append ∈ zW := zW_in 405 (by decide +kernel) (by decide +kernel)
theorem wse_X7_append : Cond.selects RX7 yX7_append yX7_append ∈ zW := zW_in 406 (by decide +kernel) (by decide +kernel)
theorem wco_X7_append : Cond.code yX7_append cX7_append 3 ((Option.none : Option FieldType)) ∈ zW := zW_in 407 (by decide +kernel) (by decide +kernel)
theorem wml_RL_18 : Cond.methodLink RL 18 yX10_law ∈ zW := zW_in 408 (by decide +kernel) (by decide +kernel)
theorem wim_X10_law : Cond.instanceMethod yX10_law ∈ zW := zW_in 409 (by decide +kernel) (by decide +kernel)
theorem wse_X10_law : Cond.selects RX10 yX10_law yX10_law ∈ zW := zW_in 410 (by decide +kernel) (by decide +kernel)
theorem wco_X10_law : Cond.code yX10_law cX10_law 2 ((Option.some FieldType.int)) ∈ zW := zW_in 411 (by decide +kernel) (by decide +kernel)
theorem wml_RX10_99 : Cond.methodLink RX10 99 yX4_tell ∈ zW := zW_in 412 (by decide +kernel) (by decide +kernel)
theorem wim_X4_tell : Cond.instanceMethod yX4_tell ∈ zW := zW_in 413 (by decide +kernel) (by decide +kernel)
theorem wse_X4_tell : Cond.selects RX4 yX4_tell yX4_tell ∈ zW := zW_in 414 (by decide +kernel) (by decide +kernel)
theorem wco_X4_tell : Cond.code yX4_tell cX4_tell 9 ((Option.some FieldType.int)) ∈ zW := zW_in 415 (by decide +kernel) (by decide +kernel)
theorem wml_RX4_30 : Cond.methodLink RX4 30 Lib.Math.min.name ∈ zW := zW_in 416 (by decide +kernel) (by decide +kernel)
theorem wml_RX4_36 : Cond.methodLink RX4 36 arraycopyName ∈ zW := zW_in 419 (by decide +kernel) (by decide +kernel)
theorem wml_RX4_42 : Cond.methodLink RX4 42 yX4_placeOf ∈ zW := zW_in 422 (by decide +kernel) (by decide +kernel)
theorem wst_X4_placeOf : Cond.static yX4_placeOf ∈ zW := zW_in 423 (by decide +kernel) (by decide +kernel)
theorem wco_X4_placeOf : Cond.code yX4_placeOf cX4_placeOf 2 ((Option.some FieldType.int)) ∈ zW := zW_in 424 (by decide +kernel) (by decide +kernel)
theorem wfl_RX4_26 : Cond.fieldLink RX4 26 "WheelHours$Law" "LETTERS" "[C" ∈ zW := zW_in 425 (by decide +kernel) (by decide +kernel)
theorem wml_RX4_46 : Cond.methodLink RX4 46 yX4_endOfDigits ∈ zW := zW_in 427 (by decide +kernel) (by decide +kernel)
theorem wst_X4_endOfDigits : Cond.static yX4_endOfDigits ∈ zW := zW_in 428 (by decide +kernel) (by decide +kernel)
theorem wco_X4_endOfDigits : Cond.code yX4_endOfDigits cX4_endOfDigits 4 ((Option.some FieldType.int)) ∈ zW := zW_in 429 (by decide +kernel) (by decide +kernel)
theorem wml_RX4_50 : Cond.methodLink RX4 50 yX4_numberOf ∈ zW := zW_in 430 (by decide +kernel) (by decide +kernel)
theorem wst_X4_numberOf : Cond.static yX4_numberOf ∈ zW := zW_in 431 (by decide +kernel) (by decide +kernel)
theorem wco_X4_numberOf : Cond.code yX4_numberOf cX4_numberOf 5 ((Option.some FieldType.int)) ∈ zW := zW_in 432 (by decide +kernel) (by decide +kernel)
theorem wml_RX4_53 : Cond.methodLink RX4 53 yX4_canBe ∈ zW := zW_in 433 (by decide +kernel) (by decide +kernel)
theorem wst_X4_canBe : Cond.static yX4_canBe ∈ zW := zW_in 434 (by decide +kernel) (by decide +kernel)
theorem wco_X4_canBe : Cond.code yX4_canBe cX4_canBe 2 ((Option.some FieldType.boolean)) ∈ zW := zW_in 435 (by decide +kernel) (by decide +kernel)
theorem wml_RL_23 : Cond.methodLink RL 23 yX10_rule ∈ zW := zW_in 436 (by decide +kernel) (by decide +kernel)
theorem wim_X10_rule : Cond.instanceMethod yX10_rule ∈ zW := zW_in 437 (by decide +kernel) (by decide +kernel)
theorem wse_X10_rule : Cond.selects RX10 yX10_rule yX10_rule ∈ zW := zW_in 438 (by decide +kernel) (by decide +kernel)
theorem wco_X10_rule : Cond.code yX10_rule cX10_rule 3 ((Option.some FieldType.int)) ∈ zW := zW_in 439 (by decide +kernel) (by decide +kernel)
theorem wml_RX10_103 : Cond.methodLink RX10 103 yX4_placeOf ∈ zW := zW_in 440 (by decide +kernel) (by decide +kernel)
theorem wml_RL_27 : Cond.methodLink RL 27 yX10_act ∈ zW := zW_in 441 (by decide +kernel) (by decide +kernel)
theorem wim_X10_act : Cond.instanceMethod yX10_act ∈ zW := zW_in 442 (by decide +kernel) (by decide +kernel)
theorem wse_X10_act : Cond.selects RX10 yX10_act yX10_act ∈ zW := zW_in 443 (by decide +kernel) (by decide +kernel)
theorem wco_X10_act : Cond.code yX10_act cX10_act 6 ((Option.some FieldType.int)) ∈ zW := zW_in 444 (by decide +kernel) (by decide +kernel)
theorem wml_RX10_110 : Cond.methodLink RX10 110 yX10_cardOf ∈ zW := zW_in 445 (by decide +kernel) (by decide +kernel)
theorem wim_X10_cardOf : Cond.instanceMethod yX10_cardOf ∈ zW := zW_in 447 (by decide +kernel) (by decide +kernel)
theorem wco_X10_cardOf : Cond.code yX10_cardOf cX10_cardOf 2 ((Option.some (FieldType.object "WheelHours$Card"))) ∈ zW := zW_in 448 (by decide +kernel) (by decide +kernel)
theorem wml_RX10_114 : Cond.methodLink RX10 114 yX10_isKind ∈ zW := zW_in 449 (by decide +kernel) (by decide +kernel)
theorem wst_X10_isKind : Cond.static yX10_isKind ∈ zW := zW_in 450 (by decide +kernel) (by decide +kernel)
theorem wco_X10_isKind : Cond.code yX10_isKind cX10_isKind 2 ((Option.some FieldType.boolean)) ∈ zW := zW_in 451 (by decide +kernel) (by decide +kernel)
theorem wml_RX10_118 : Cond.methodLink RX10 118 yX1_hasRoom ∈ zW := zW_in 452 (by decide +kernel) (by decide +kernel)
theorem wim_X1_hasRoom : Cond.instanceMethod yX1_hasRoom ∈ zW := zW_in 453 (by decide +kernel) (by decide +kernel)
theorem wse_X1_hasRoom : Cond.selects RX1 yX1_hasRoom yX1_hasRoom ∈ zW := zW_in 454 (by decide +kernel) (by decide +kernel)
theorem wco_X1_hasRoom : Cond.code yX1_hasRoom cX1_hasRoom 2 ((Option.some FieldType.boolean)) ∈ zW := zW_in 455 (by decide +kernel) (by decide +kernel)
theorem wml_RX10_121 : Cond.methodLink RX10 121 yX1_append ∈ zW := zW_in 456 (by decide +kernel) (by decide +kernel)
theorem wim_X1_append : Cond.instanceMethod yX1_append ∈ zW := zW_in 457 (by decide +kernel) (by decide +kernel)
theorem wse_X1_append : Cond.selects RX1 yX1_append yX1_append ∈ zW := zW_in 458 (by decide +kernel) (by decide +kernel)
theorem wco_X1_append : Cond.code yX1_append cX1_append 5 ((Option.some FieldType.int)) ∈ zW := zW_in 459 (by decide +kernel) (by decide +kernel)
theorem wml_RX1_25 : Cond.methodLink RX1 25 yX1_change ∈ zW := zW_in 460 (by decide +kernel) (by decide +kernel)
theorem wim_X1_change : Cond.instanceMethod yX1_change ∈ zW := zW_in 461 (by decide +kernel) (by decide +kernel)
theorem wse_X1_change : Cond.selects RX1 yX1_change yX1_change ∈ zW := zW_in 462 (by decide +kernel) (by decide +kernel)
theorem wco_X1_change : Cond.code yX1_change cX1_change 4 ((Option.none : Option FieldType)) ∈ zW := zW_in 463 (by decide +kernel) (by decide +kernel)
theorem wml_RL_32 : Cond.methodLink RL 32 yX10_put ∈ zW := zW_in 464 (by decide +kernel) (by decide +kernel)
theorem wim_X10_put : Cond.instanceMethod yX10_put ∈ zW := zW_in 465 (by decide +kernel) (by decide +kernel)
theorem wse_X10_put : Cond.selects RX10 yX10_put yX10_put ∈ zW := zW_in 466 (by decide +kernel) (by decide +kernel)
theorem wco_X10_put : Cond.code yX10_put cX10_put 6 ((Option.some FieldType.boolean)) ∈ zW := zW_in 467 (by decide +kernel) (by decide +kernel)
theorem wml_RX10_124 : Cond.methodLink RX10 124 yX1_has ∈ zW := zW_in 468 (by decide +kernel) (by decide +kernel)
theorem wim_X1_has : Cond.instanceMethod yX1_has ∈ zW := zW_in 469 (by decide +kernel) (by decide +kernel)
theorem wse_X1_has : Cond.selects RX1 yX1_has yX1_has ∈ zW := zW_in 470 (by decide +kernel) (by decide +kernel)
theorem wco_X1_has : Cond.code yX1_has cX1_has 2 ((Option.some FieldType.boolean)) ∈ zW := zW_in 471 (by decide +kernel) (by decide +kernel)
theorem wml_RX10_127 : Cond.methodLink RX10 127 yX1_change ∈ zW := zW_in 472 (by decide +kernel) (by decide +kernel)
theorem wml_RL_37 : Cond.methodLink RL 37 yX10_trip ∈ zW := zW_in 473 (by decide +kernel) (by decide +kernel)
theorem wim_X10_trip : Cond.instanceMethod yX10_trip ∈ zW := zW_in 474 (by decide +kernel) (by decide +kernel)
theorem wse_X10_trip : Cond.selects RX10 yX10_trip yX10_trip ∈ zW := zW_in 475 (by decide +kernel) (by decide +kernel)
theorem wco_X10_trip : Cond.code yX10_trip cX10_trip 5 ((Option.some FieldType.boolean)) ∈ zW := zW_in 476 (by decide +kernel) (by decide +kernel)
theorem wml_RX10_131 : Cond.methodLink RX10 131 yX10_tripsOf ∈ zW := zW_in 477 (by decide +kernel) (by decide +kernel)
theorem wim_X10_tripsOf : Cond.instanceMethod yX10_tripsOf ∈ zW := zW_in 479 (by decide +kernel) (by decide +kernel)
theorem wco_X10_tripsOf : Cond.code yX10_tripsOf cX10_tripsOf 2 ((Option.some (FieldType.object "WheelHours$Trips"))) ∈ zW := zW_in 480 (by decide +kernel) (by decide +kernel)
theorem wml_RX10_135 : Cond.methodLink RX10 135 yX8_insert ∈ zW := zW_in 481 (by decide +kernel) (by decide +kernel)
theorem wim_X8_insert : Cond.instanceMethod yX8_insert ∈ zW := zW_in 482 (by decide +kernel) (by decide +kernel)
theorem wse_X8_insert : Cond.selects RX8 yX8_insert yX8_insert ∈ zW := zW_in 483 (by decide +kernel) (by decide +kernel)
theorem wco_X8_insert : Cond.code yX8_insert cX8_insert 4 ((Option.some FieldType.boolean)) ∈ zW := zW_in 484 (by decide +kernel) (by decide +kernel)
theorem wml_RX8_20 : Cond.methodLink RX8 20 arraycopyName ∈ zW := zW_in 485 (by decide +kernel) (by decide +kernel)
theorem wml_RL_42 : Cond.methodLink RL 42 yX10_breaches ∈ zW := zW_in 486 (by decide +kernel) (by decide +kernel)
theorem wim_X10_breaches : Cond.instanceMethod yX10_breaches ∈ zW := zW_in 487 (by decide +kernel) (by decide +kernel)
theorem wse_X10_breaches : Cond.selects RX10 yX10_breaches yX10_breaches ∈ zW := zW_in 488 (by decide +kernel) (by decide +kernel)
theorem wco_X10_breaches : Cond.code yX10_breaches cX10_breaches 4 ((Option.some FieldType.int)) ∈ zW := zW_in 489 (by decide +kernel) (by decide +kernel)
theorem wml_RX10_138 : Cond.methodLink RX10 138 yX10_findDays ∈ zW := zW_in 490 (by decide +kernel) (by decide +kernel)
theorem wim_X10_findDays : Cond.instanceMethod yX10_findDays ∈ zW := zW_in 492 (by decide +kernel) (by decide +kernel)
theorem wco_X10_findDays : Cond.code yX10_findDays cX10_findDays 3 ((Option.none : Option FieldType)) ∈ zW := zW_in 493 (by decide +kernel) (by decide +kernel)
theorem wml_RX10_154 : Cond.methodLink RX10 154 yX6_read ∈ zW := zW_in 494 (by decide +kernel) (by decide +kernel)
theorem wim_X6_read : Cond.instanceMethod yX6_read ∈ zW := zW_in 495 (by decide +kernel) (by decide +kernel)
theorem wse_X6_read : Cond.selects RX6 yX6_read yX6_read ∈ zW := zW_in 496 (by decide +kernel) (by decide +kernel)
theorem wco_X6_read : Cond.code yX6_read cX6_read 4 ((Option.none : Option FieldType)) ∈ zW := zW_in 497 (by decide +kernel) (by decide +kernel)
theorem wml_RX6_44 : Cond.methodLink RX6 44 arraycopyName ∈ zW := zW_in 498 (by decide +kernel) (by decide +kernel)
theorem wml_RX6_50 : Cond.methodLink RX6 50 yX1_kindRead ∈ zW := zW_in 499 (by decide +kernel) (by decide +kernel)
theorem wim_X1_kindRead : Cond.instanceMethod yX1_kindRead ∈ zW := zW_in 500 (by decide +kernel) (by decide +kernel)
theorem wse_X1_kindRead : Cond.selects RX1 yX1_kindRead yX1_kindRead ∈ zW := zW_in 501 (by decide +kernel) (by decide +kernel)
theorem wco_X1_kindRead : Cond.code yX1_kindRead cX1_kindRead 3 ((Option.some FieldType.int)) ∈ zW := zW_in 502 (by decide +kernel) (by decide +kernel)
theorem wml_RX1_29 : Cond.methodLink RX1 29 yX1_isRest ∈ zW := zW_in 503 (by decide +kernel) (by decide +kernel)
theorem wim_X1_isRest : Cond.instanceMethod yX1_isRest ∈ zW := zW_in 505 (by decide +kernel) (by decide +kernel)
theorem wco_X1_isRest : Cond.code yX1_isRest cX1_isRest 3 ((Option.some FieldType.boolean)) ∈ zW := zW_in 506 (by decide +kernel) (by decide +kernel)
theorem wml_RX1_33 : Cond.methodLink RX1 33 yX1_has ∈ zW := zW_in 507 (by decide +kernel) (by decide +kernel)
theorem wml_RX6_54 : Cond.methodLink RX6 54 yX6_addRest ∈ zW := zW_in 508 (by decide +kernel) (by decide +kernel)
theorem wim_X6_addRest : Cond.instanceMethod yX6_addRest ∈ zW := zW_in 510 (by decide +kernel) (by decide +kernel)
theorem wco_X6_addRest : Cond.code yX6_addRest cX6_addRest 2 ((Option.none : Option FieldType)) ∈ zW := zW_in 511 (by decide +kernel) (by decide +kernel)
theorem wml_RX10_204 : Cond.methodLink RX10 204 yX5_findPrices ∈ zW := zW_in 512 (by decide +kernel) (by decide +kernel)
theorem wim_X5_findPrices : Cond.instanceMethod yX5_findPrices ∈ zW := zW_in 513 (by decide +kernel) (by decide +kernel)
theorem wse_X5_findPrices : Cond.selects RX5 yX5_findPrices yX5_findPrices ∈ zW := zW_in 514 (by decide +kernel) (by decide +kernel)
theorem wco_X5_findPrices : Cond.code yX5_findPrices cX5_findPrices 2 ((Option.none : Option FieldType)) ∈ zW := zW_in 515 (by decide +kernel) (by decide +kernel)
theorem wml_RX5_53 : Cond.methodLink RX5 53 yX5_findMarks ∈ zW := zW_in 516 (by decide +kernel) (by decide +kernel)
theorem wim_X5_findMarks : Cond.instanceMethod yX5_findMarks ∈ zW := zW_in 518 (by decide +kernel) (by decide +kernel)
theorem wco_X5_findMarks : Cond.code yX5_findMarks cX5_findMarks 4 ((Option.none : Option FieldType)) ∈ zW := zW_in 519 (by decide +kernel) (by decide +kernel)
theorem wml_RX5_65 : Cond.methodLink RX5 65 yX5_addMark ∈ zW := zW_in 520 (by decide +kernel) (by decide +kernel)
theorem wim_X5_addMark : Cond.instanceMethod yX5_addMark ∈ zW := zW_in 522 (by decide +kernel) (by decide +kernel)
theorem wco_X5_addMark : Cond.code yX5_addMark cX5_addMark 7 ((Option.none : Option FieldType)) ∈ zW := zW_in 523 (by decide +kernel) (by decide +kernel)
theorem wml_RX5_74 : Cond.methodLink RX5 74 yX6_runLength ∈ zW := zW_in 524 (by decide +kernel) (by decide +kernel)
theorem wim_X6_runLength : Cond.instanceMethod yX6_runLength ∈ zW := zW_in 525 (by decide +kernel) (by decide +kernel)
theorem wse_X6_runLength : Cond.selects RX6 yX6_runLength yX6_runLength ∈ zW := zW_in 526 (by decide +kernel) (by decide +kernel)
theorem wco_X6_runLength : Cond.code yX6_runLength cX6_runLength 2 ((Option.some FieldType.int)) ∈ zW := zW_in 527 (by decide +kernel) (by decide +kernel)
theorem wml_RX5_83 : Cond.methodLink RX5 83 yX5_addRest ∈ zW := zW_in 528 (by decide +kernel) (by decide +kernel)
theorem wim_X5_addRest : Cond.instanceMethod yX5_addRest ∈ zW := zW_in 530 (by decide +kernel) (by decide +kernel)
theorem wco_X5_addRest : Cond.code yX5_addRest cX5_addRest 6 ((Option.none : Option FieldType)) ∈ zW := zW_in 531 (by decide +kernel) (by decide +kernel)
theorem wkl_RX5_87 : Cond.constantLong RX5 87 (262144) ∈ zW := zW_in 532 (by decide +kernel) (by decide +kernel)
theorem wkl_RX5_89 : Cond.constantLong RX5 89 (2048) ∈ zW := zW_in 533 (by decide +kernel) (by decide +kernel)
theorem wml_RX5_96 : Cond.methodLink RX5 96 Lib.Math.min.name ∈ zW := zW_in 534 (by decide +kernel) (by decide +kernel)
theorem wml_RX5_56 : Cond.methodLink RX5 56 yX5_makeRoom ∈ zW := zW_in 535 (by decide +kernel) (by decide +kernel)
theorem wim_X5_makeRoom : Cond.instanceMethod yX5_makeRoom ∈ zW := zW_in 537 (by decide +kernel) (by decide +kernel)
theorem wco_X5_makeRoom : Cond.code yX5_makeRoom cX5_makeRoom 2 ((Option.none : Option FieldType)) ∈ zW := zW_in 538 (by decide +kernel) (by decide +kernel)
theorem wml_RX5_111 : Cond.methodLink RX5 111 yX5_placeOf ∈ zW := zW_in 539 (by decide +kernel) (by decide +kernel)
theorem wim_X5_placeOf : Cond.instanceMethod yX5_placeOf ∈ zW := zW_in 541 (by decide +kernel) (by decide +kernel)
theorem wco_X5_placeOf : Cond.code yX5_placeOf cX5_placeOf 4 ((Option.some FieldType.int)) ∈ zW := zW_in 542 (by decide +kernel) (by decide +kernel)
theorem wml_RX5_115 : Cond.methodLink RX5 115 Lib.Math.max.name ∈ zW := zW_in 543 (by decide +kernel) (by decide +kernel)
theorem wml_RX5_59 : Cond.methodLink RX5 59 yX5_findLeast ∈ zW := zW_in 546 (by decide +kernel) (by decide +kernel)
theorem wim_X5_findLeast : Cond.instanceMethod yX5_findLeast ∈ zW := zW_in 548 (by decide +kernel) (by decide +kernel)
theorem wco_X5_findLeast : Cond.code yX5_findLeast cX5_findLeast 6 ((Option.none : Option FieldType)) ∈ zW := zW_in 549 (by decide +kernel) (by decide +kernel)
theorem wkl_RX5_118 : Cond.constantLong RX5 118 (1152921504606846976) ∈ zW := zW_in 550 (by decide +kernel) (by decide +kernel)
theorem wml_RX5_120 : Cond.methodLink RX5 120 yX5_lastEnd ∈ zW := zW_in 551 (by decide +kernel) (by decide +kernel)
theorem wim_X5_lastEnd : Cond.instanceMethod yX5_lastEnd ∈ zW := zW_in 553 (by decide +kernel) (by decide +kernel)
theorem wco_X5_lastEnd : Cond.code yX5_lastEnd cX5_lastEnd 3 ((Option.some FieldType.int)) ∈ zW := zW_in 554 (by decide +kernel) (by decide +kernel)
theorem wml_RX5_123 : Cond.methodLink RX5 123 yX5_offer ∈ zW := zW_in 555 (by decide +kernel) (by decide +kernel)
theorem wim_X5_offer : Cond.instanceMethod yX5_offer ∈ zW := zW_in 557 (by decide +kernel) (by decide +kernel)
theorem wco_X5_offer : Cond.code yX5_offer cX5_offer 11 ((Option.none : Option FieldType)) ∈ zW := zW_in 558 (by decide +kernel) (by decide +kernel)
theorem wml_RX5_127 : Cond.methodLink RX5 127 yX5_priceOf ∈ zW := zW_in 559 (by decide +kernel) (by decide +kernel)
theorem wim_X5_priceOf : Cond.instanceMethod yX5_priceOf ∈ zW := zW_in 561 (by decide +kernel) (by decide +kernel)
theorem wco_X5_priceOf : Cond.code yX5_priceOf cX5_priceOf 6 ((Option.some FieldType.long)) ∈ zW := zW_in 562 (by decide +kernel) (by decide +kernel)
theorem wml_RX5_143 : Cond.methodLink RX5 143 yX5_overOf ∈ zW := zW_in 563 (by decide +kernel) (by decide +kernel)
theorem wim_X5_overOf : Cond.instanceMethod yX5_overOf ∈ zW := zW_in 565 (by decide +kernel) (by decide +kernel)
theorem wco_X5_overOf : Cond.code yX5_overOf cX5_overOf 4 ((Option.some FieldType.int)) ∈ zW := zW_in 566 (by decide +kernel) (by decide +kernel)
theorem wml_RX5_146 : Cond.methodLink RX5 146 yX5_lateOf ∈ zW := zW_in 567 (by decide +kernel) (by decide +kernel)
theorem wim_X5_lateOf : Cond.instanceMethod yX5_lateOf ∈ zW := zW_in 569 (by decide +kernel) (by decide +kernel)
theorem wco_X5_lateOf : Cond.code yX5_lateOf cX5_lateOf 3 ((Option.some FieldType.int)) ∈ zW := zW_in 570 (by decide +kernel) (by decide +kernel)
theorem wkl_RX5_149 : Cond.constantLong RX5 149 (4194304) ∈ zW := zW_in 571 (by decide +kernel) (by decide +kernel)
theorem wkl_RX5_151 : Cond.constantLong RX5 151 (4096) ∈ zW := zW_in 572 (by decide +kernel) (by decide +kernel)
theorem wml_RX5_131 : Cond.methodLink RX5 131 yX5_takenLeft ∈ zW := zW_in 573 (by decide +kernel) (by decide +kernel)
theorem wim_X5_takenLeft : Cond.instanceMethod yX5_takenLeft ∈ zW := zW_in 575 (by decide +kernel) (by decide +kernel)
theorem wco_X5_takenLeft : Cond.code yX5_takenLeft cX5_takenLeft 6 ((Option.some FieldType.int)) ∈ zW := zW_in 576 (by decide +kernel) (by decide +kernel)
theorem wml_RX5_134 : Cond.methodLink RX5 134 yX5_extendedLeft ∈ zW := zW_in 577 (by decide +kernel) (by decide +kernel)
theorem wim_X5_extendedLeft : Cond.instanceMethod yX5_extendedLeft ∈ zW := zW_in 579 (by decide +kernel) (by decide +kernel)
theorem wco_X5_extendedLeft : Cond.code yX5_extendedLeft cX5_extendedLeft 4 ((Option.some FieldType.int)) ∈ zW := zW_in 580 (by decide +kernel) (by decide +kernel)
theorem wml_RX5_137 : Cond.methodLink RX5 137 yX5_leastFrom ∈ zW := zW_in 581 (by decide +kernel) (by decide +kernel)
theorem wim_X5_leastFrom : Cond.instanceMethod yX5_leastFrom ∈ zW := zW_in 583 (by decide +kernel) (by decide +kernel)
theorem wco_X5_leastFrom : Cond.code yX5_leastFrom cX5_leastFrom 4 ((Option.some FieldType.long)) ∈ zW := zW_in 584 (by decide +kernel) (by decide +kernel)
theorem wml_RX5_140 : Cond.methodLink RX5 140 Lib.MathLoose.min_long.x ∈ zW := zW_in 585 (by decide +kernel) (by decide +kernel)
theorem wml_RX10_207 : Cond.methodLink RX10 207 yX5_tellDays ∈ zW := zW_in 588 (by decide +kernel) (by decide +kernel)
theorem wim_X5_tellDays : Cond.instanceMethod yX5_tellDays ∈ zW := zW_in 589 (by decide +kernel) (by decide +kernel)
theorem wse_X5_tellDays : Cond.selects RX5 yX5_tellDays yX5_tellDays ∈ zW := zW_in 590 (by decide +kernel) (by decide +kernel)
theorem wco_X5_tellDays : Cond.code yX5_tellDays cX5_tellDays 8 ((Option.none : Option FieldType)) ∈ zW := zW_in 591 (by decide +kernel) (by decide +kernel)
theorem wml_RX5_156 : Cond.methodLink RX5 156 yX5_choiceAt ∈ zW := zW_in 592 (by decide +kernel) (by decide +kernel)
theorem wim_X5_choiceAt : Cond.instanceMethod yX5_choiceAt ∈ zW := zW_in 594 (by decide +kernel) (by decide +kernel)
theorem wco_X5_choiceAt : Cond.code yX5_choiceAt cX5_choiceAt 11 ((Option.some FieldType.int)) ∈ zW := zW_in 595 (by decide +kernel) (by decide +kernel)
theorem wml_RX5_159 : Cond.methodLink RX5 159 yX3_addSpan ∈ zW := zW_in 596 (by decide +kernel) (by decide +kernel)
theorem wim_X3_addSpan : Cond.instanceMethod yX3_addSpan ∈ zW := zW_in 597 (by decide +kernel) (by decide +kernel)
theorem wse_X3_addSpan : Cond.selects RX3 yX3_addSpan yX3_addSpan ∈ zW := zW_in 598 (by decide +kernel) (by decide +kernel)
theorem wco_X3_addSpan : Cond.code yX3_addSpan cX3_addSpan 4 ((Option.none : Option FieldType)) ∈ zW := zW_in 599 (by decide +kernel) (by decide +kernel)
theorem wml_RX5_162 : Cond.methodLink RX5 162 yX3_setLast ∈ zW := zW_in 600 (by decide +kernel) (by decide +kernel)
theorem wim_X3_setLast : Cond.instanceMethod yX3_setLast ∈ zW := zW_in 601 (by decide +kernel) (by decide +kernel)
theorem wse_X3_setLast : Cond.selects RX3 yX3_setLast yX3_setLast ∈ zW := zW_in 602 (by decide +kernel) (by decide +kernel)
theorem wco_X3_setLast : Cond.code yX3_setLast cX3_setLast 5 ((Option.none : Option FieldType)) ∈ zW := zW_in 603 (by decide +kernel) (by decide +kernel)
theorem wml_RX10_142 : Cond.methodLink RX10 142 yX10_findBreaches ∈ zW := zW_in 604 (by decide +kernel) (by decide +kernel)
theorem wim_X10_findBreaches : Cond.instanceMethod yX10_findBreaches ∈ zW := zW_in 606 (by decide +kernel) (by decide +kernel)
theorem wco_X10_findBreaches : Cond.code yX10_findBreaches cX10_findBreaches 1 ((Option.none : Option FieldType)) ∈ zW := zW_in 607 (by decide +kernel) (by decide +kernel)
theorem wml_RX10_210 : Cond.methodLink RX10 210 yX9_tellOver ∈ zW := zW_in 608 (by decide +kernel) (by decide +kernel)
theorem wim_X9_tellOver : Cond.instanceMethod yX9_tellOver ∈ zW := zW_in 609 (by decide +kernel) (by decide +kernel)
theorem wse_X9_tellOver : Cond.selects RX9 yX9_tellOver yX9_tellOver ∈ zW := zW_in 610 (by decide +kernel) (by decide +kernel)
theorem wco_X9_tellOver : Cond.code yX9_tellOver cX9_tellOver 4 ((Option.none : Option FieldType)) ∈ zW := zW_in 611 (by decide +kernel) (by decide +kernel)
theorem wml_RX9_50 : Cond.methodLink RX9 50 yX9_passRuns ∈ zW := zW_in 612 (by decide +kernel) (by decide +kernel)
theorem wim_X9_passRuns : Cond.instanceMethod yX9_passRuns ∈ zW := zW_in 614 (by decide +kernel) (by decide +kernel)
theorem wco_X9_passRuns : Cond.code yX9_passRuns cX9_passRuns 3 ((Option.none : Option FieldType)) ∈ zW := zW_in 615 (by decide +kernel) (by decide +kernel)
theorem wml_RX9_46 : Cond.methodLink RX9 46 yX9_passRun ∈ zW := zW_in 616 (by decide +kernel) (by decide +kernel)
theorem wim_X9_passRun : Cond.instanceMethod yX9_passRun ∈ zW := zW_in 618 (by decide +kernel) (by decide +kernel)
theorem wco_X9_passRun : Cond.code yX9_passRun cX9_passRun 3 ((Option.none : Option FieldType)) ∈ zW := zW_in 619 (by decide +kernel) (by decide +kernel)
theorem wml_RX9_33 : Cond.methodLink RX9 33 yX6_runLength ∈ zW := zW_in 620 (by decide +kernel) (by decide +kernel)
theorem wml_RX9_39 : Cond.methodLink RX9 39 yX9_frees ∈ zW := zW_in 621 (by decide +kernel) (by decide +kernel)
theorem wim_X9_frees : Cond.instanceMethod yX9_frees ∈ zW := zW_in 623 (by decide +kernel) (by decide +kernel)
theorem wco_X9_frees : Cond.code yX9_frees cX9_frees 2 ((Option.some FieldType.boolean)) ∈ zW := zW_in 624 (by decide +kernel) (by decide +kernel)
theorem wml_RX9_56 : Cond.methodLink RX9 56 yX9_tellSpell ∈ zW := zW_in 625 (by decide +kernel) (by decide +kernel)
theorem wim_X9_tellSpell : Cond.instanceMethod yX9_tellSpell ∈ zW := zW_in 627 (by decide +kernel) (by decide +kernel)
theorem wco_X9_tellSpell : Cond.code yX9_tellSpell cX9_tellSpell 5 ((Option.none : Option FieldType)) ∈ zW := zW_in 628 (by decide +kernel) (by decide +kernel)
theorem wml_RX9_63 : Cond.methodLink RX9 63 yX6_driveMinute ∈ zW := zW_in 629 (by decide +kernel) (by decide +kernel)
theorem wim_X6_driveMinute : Cond.instanceMethod yX6_driveMinute ∈ zW := zW_in 630 (by decide +kernel) (by decide +kernel)
theorem wse_X6_driveMinute : Cond.selects RX6 yX6_driveMinute yX6_driveMinute ∈ zW := zW_in 631 (by decide +kernel) (by decide +kernel)
theorem wco_X6_driveMinute : Cond.code yX6_driveMinute cX6_driveMinute 4 ((Option.some FieldType.int)) ∈ zW := zW_in 632 (by decide +kernel) (by decide +kernel)
theorem wml_RX9_66 : Cond.methodLink RX9 66 yX0_insert ∈ zW := zW_in 633 (by decide +kernel) (by decide +kernel)
theorem wim_X0_insert : Cond.instanceMethod yX0_insert ∈ zW := zW_in 634 (by decide +kernel) (by decide +kernel)
theorem wse_X0_insert : Cond.selects RX0 yX0_insert yX0_insert ∈ zW := zW_in 635 (by decide +kernel) (by decide +kernel)
theorem wco_X0_insert : Cond.code yX0_insert cX0_insert 5 ((Option.none : Option FieldType)) ∈ zW := zW_in 636 (by decide +kernel) (by decide +kernel)
theorem wml_RX0_25 : Cond.methodLink RX0 25 yX0_isBehind ∈ zW := zW_in 637 (by decide +kernel) (by decide +kernel)
theorem wim_X0_isBehind : Cond.instanceMethod yX0_isBehind ∈ zW := zW_in 639 (by decide +kernel) (by decide +kernel)
theorem wco_X0_isBehind : Cond.code yX0_isBehind cX0_isBehind 4 ((Option.some FieldType.boolean)) ∈ zW := zW_in 640 (by decide +kernel) (by decide +kernel)
theorem wml_RX10_214 : Cond.methodLink RX10 214 yX3_tellOverAndLate ∈ zW := zW_in 641 (by decide +kernel) (by decide +kernel)
theorem wim_X3_tellOverAndLate : Cond.instanceMethod yX3_tellOverAndLate ∈ zW := zW_in 642 (by decide +kernel) (by decide +kernel)
theorem wse_X3_tellOverAndLate : Cond.selects RX3 yX3_tellOverAndLate yX3_tellOverAndLate ∈ zW := zW_in 643 (by decide +kernel) (by decide +kernel)
theorem wco_X3_tellOverAndLate : Cond.code yX3_tellOverAndLate cX3_tellOverAndLate 7 ((Option.none : Option FieldType)) ∈ zW := zW_in 644 (by decide +kernel) (by decide +kernel)
theorem wml_RX3_42 : Cond.methodLink RX3 42 yX6_driveMinute ∈ zW := zW_in 645 (by decide +kernel) (by decide +kernel)
theorem wml_RX3_48 : Cond.methodLink RX3 48 yX0_insert ∈ zW := zW_in 646 (by decide +kernel) (by decide +kernel)
theorem wml_RX10_218 : Cond.methodLink RX10 218 yX10_tellOverInWeeks ∈ zW := zW_in 647 (by decide +kernel) (by decide +kernel)
theorem wim_X10_tellOverInWeeks : Cond.instanceMethod yX10_tellOverInWeeks ∈ zW := zW_in 649 (by decide +kernel) (by decide +kernel)
theorem wco_X10_tellOverInWeeks : Cond.code yX10_tellOverInWeeks cX10_tellOverInWeeks 5 ((Option.none : Option FieldType)) ∈ zW := zW_in 650 (by decide +kernel) (by decide +kernel)
theorem wml_RX10_221 : Cond.methodLink RX10 221 yX6_driveAhead ∈ zW := zW_in 651 (by decide +kernel) (by decide +kernel)
theorem wim_X6_driveAhead : Cond.instanceMethod yX6_driveAhead ∈ zW := zW_in 652 (by decide +kernel) (by decide +kernel)
theorem wse_X6_driveAhead : Cond.selects RX6 yX6_driveAhead yX6_driveAhead ∈ zW := zW_in 653 (by decide +kernel) (by decide +kernel)
theorem wco_X6_driveAhead : Cond.code yX6_driveAhead cX6_driveAhead 4 ((Option.some FieldType.int)) ∈ zW := zW_in 654 (by decide +kernel) (by decide +kernel)
theorem wml_RX6_68 : Cond.methodLink RX6 68 Lib.Math.min.name ∈ zW := zW_in 655 (by decide +kernel) (by decide +kernel)
theorem wml_RX10_224 : Cond.methodLink RX10 224 yX6_driveMinute ∈ zW := zW_in 656 (by decide +kernel) (by decide +kernel)
theorem wml_RX10_227 : Cond.methodLink RX10 227 yX0_insert ∈ zW := zW_in 657 (by decide +kernel) (by decide +kernel)
theorem wml_RL_47 : Cond.methodLink RL 47 yX10_breach ∈ zW := zW_in 658 (by decide +kernel) (by decide +kernel)
theorem wim_X10_breach : Cond.instanceMethod yX10_breach ∈ zW := zW_in 659 (by decide +kernel) (by decide +kernel)
theorem wse_X10_breach : Cond.selects RX10 yX10_breach yX10_breach ∈ zW := zW_in 660 (by decide +kernel) (by decide +kernel)
theorem wco_X10_breach : Cond.code yX10_breach cX10_breach 6 ((Option.some FieldType.int)) ∈ zW := zW_in 661 (by decide +kernel) (by decide +kernel)
theorem wml_RX10_146 : Cond.methodLink RX10 146 yX0_tell ∈ zW := zW_in 662 (by decide +kernel) (by decide +kernel)
theorem wim_X0_tell : Cond.instanceMethod yX0_tell ∈ zW := zW_in 663 (by decide +kernel) (by decide +kernel)
theorem wse_X0_tell : Cond.selects RX0 yX0_tell yX0_tell ∈ zW := zW_in 664 (by decide +kernel) (by decide +kernel)
theorem wco_X0_tell : Cond.code yX0_tell cX0_tell 3 ((Option.some FieldType.int)) ∈ zW := zW_in 665 (by decide +kernel) (by decide +kernel)
theorem wml_RL_52 : Cond.methodLink RL 52 yX10_weight ∈ zW := zW_in 666 (by decide +kernel) (by decide +kernel)
theorem wim_X10_weight : Cond.instanceMethod yX10_weight ∈ zW := zW_in 667 (by decide +kernel) (by decide +kernel)
theorem wse_X10_weight : Cond.selects RX10 yX10_weight yX10_weight ∈ zW := zW_in 668 (by decide +kernel) (by decide +kernel)
theorem wco_X10_weight : Cond.code yX10_weight cX10_weight 4 ((Option.some FieldType.int)) ∈ zW := zW_in 669 (by decide +kernel) (by decide +kernel)
theorem wml_RX10_149 : Cond.methodLink RX10 149 yX3_overAndLate ∈ zW := zW_in 670 (by decide +kernel) (by decide +kernel)
theorem wim_X3_overAndLate : Cond.instanceMethod yX3_overAndLate ∈ zW := zW_in 671 (by decide +kernel) (by decide +kernel)
theorem wse_X3_overAndLate : Cond.selects RX3 yX3_overAndLate yX3_overAndLate ∈ zW := zW_in 672 (by decide +kernel) (by decide +kernel)
theorem wco_X3_overAndLate : Cond.code yX3_overAndLate cX3_overAndLate 3 ((Option.some FieldType.int)) ∈ zW := zW_in 673 (by decide +kernel) (by decide +kernel)
theorem wml_RL_56 : Cond.methodLink RL 56 yX10_day ∈ zW := zW_in 674 (by decide +kernel) (by decide +kernel)
theorem wim_X10_day : Cond.instanceMethod yX10_day ∈ zW := zW_in 675 (by decide +kernel) (by decide +kernel)
theorem wse_X10_day : Cond.selects RX10 yX10_day yX10_day ∈ zW := zW_in 676 (by decide +kernel) (by decide +kernel)
theorem wco_X10_day : Cond.code yX10_day cX10_day 6 ((Option.some FieldType.int)) ∈ zW := zW_in 677 (by decide +kernel) (by decide +kernel)
theorem wml_RX10_153 : Cond.methodLink RX10 153 yX3_tell ∈ zW := zW_in 678 (by decide +kernel) (by decide +kernel)
theorem wim_X3_tell : Cond.instanceMethod yX3_tell ∈ zW := zW_in 679 (by decide +kernel) (by decide +kernel)
theorem wse_X3_tell : Cond.selects RX3 yX3_tell yX3_tell ∈ zW := zW_in 680 (by decide +kernel) (by decide +kernel)
theorem wco_X3_tell : Cond.code yX3_tell cX3_tell 3 ((Option.some FieldType.int)) ∈ zW := zW_in 681 (by decide +kernel) (by decide +kernel)
theorem wml_RL_60 : Cond.methodLink RL 60 yX10_may ∈ zW := zW_in 682 (by decide +kernel) (by decide +kernel)
theorem wim_X10_may : Cond.instanceMethod yX10_may ∈ zW := zW_in 683 (by decide +kernel) (by decide +kernel)
theorem wse_X10_may : Cond.selects RX10 yX10_may yX10_may ∈ zW := zW_in 684 (by decide +kernel) (by decide +kernel)
theorem wco_X10_may : Cond.code yX10_may cX10_may 4 ((Option.some FieldType.int)) ∈ zW := zW_in 685 (by decide +kernel) (by decide +kernel)
theorem wml_RX10_157 : Cond.methodLink RX10 157 yX9_leftNow ∈ zW := zW_in 686 (by decide +kernel) (by decide +kernel)
theorem wim_X9_leftNow : Cond.instanceMethod yX9_leftNow ∈ zW := zW_in 687 (by decide +kernel) (by decide +kernel)
theorem wse_X9_leftNow : Cond.selects RX9 yX9_leftNow yX9_leftNow ∈ zW := zW_in 688 (by decide +kernel) (by decide +kernel)
theorem wco_X9_leftNow : Cond.code yX9_leftNow cX9_leftNow 1 ((Option.some FieldType.int)) ∈ zW := zW_in 689 (by decide +kernel) (by decide +kernel)
theorem wml_RX9_72 : Cond.methodLink RX9 72 Lib.Math.max.name ∈ zW := zW_in 690 (by decide +kernel) (by decide +kernel)
theorem wml_RL_64 : Cond.methodLink RL 64 yX10_most ∈ zW := zW_in 691 (by decide +kernel) (by decide +kernel)
theorem wim_X10_most : Cond.instanceMethod yX10_most ∈ zW := zW_in 692 (by decide +kernel) (by decide +kernel)
theorem wse_X10_most : Cond.selects RX10 yX10_most yX10_most ∈ zW := zW_in 693 (by decide +kernel) (by decide +kernel)
theorem wco_X10_most : Cond.code yX10_most cX10_most 5 ((Option.some FieldType.int)) ∈ zW := zW_in 694 (by decide +kernel) (by decide +kernel)
theorem wml_RX10_160 : Cond.methodLink RX10 160 yX9_mostAhead ∈ zW := zW_in 695 (by decide +kernel) (by decide +kernel)
theorem wim_X9_mostAhead : Cond.instanceMethod yX9_mostAhead ∈ zW := zW_in 696 (by decide +kernel) (by decide +kernel)
theorem wse_X9_mostAhead : Cond.selects RX9 yX9_mostAhead yX9_mostAhead ∈ zW := zW_in 697 (by decide +kernel) (by decide +kernel)
theorem wco_X9_mostAhead : Cond.code yX9_mostAhead cX9_mostAhead 4 ((Option.some FieldType.int)) ∈ zW := zW_in 698 (by decide +kernel) (by decide +kernel)
theorem wml_RX9_78 : Cond.methodLink RX9 78 yX6_endsWithRun ∈ zW := zW_in 699 (by decide +kernel) (by decide +kernel)
theorem wim_X6_endsWithRun : Cond.instanceMethod yX6_endsWithRun ∈ zW := zW_in 700 (by decide +kernel) (by decide +kernel)
theorem wse_X6_endsWithRun : Cond.selects RX6 yX6_endsWithRun yX6_endsWithRun ∈ zW := zW_in 701 (by decide +kernel) (by decide +kernel)
theorem wco_X6_endsWithRun : Cond.code yX6_endsWithRun cX6_endsWithRun 1 ((Option.some FieldType.boolean)) ∈ zW := zW_in 702 (by decide +kernel) (by decide +kernel)
theorem wml_RX9_82 : Cond.methodLink RX9 82 yX9_mostBehindRest ∈ zW := zW_in 703 (by decide +kernel) (by decide +kernel)
theorem wim_X9_mostBehindRest : Cond.instanceMethod yX9_mostBehindRest ∈ zW := zW_in 705 (by decide +kernel) (by decide +kernel)
theorem wco_X9_mostBehindRest : Cond.code yX9_mostBehindRest cX9_mostBehindRest 5 ((Option.some FieldType.int)) ∈ zW := zW_in 706 (by decide +kernel) (by decide +kernel)
theorem wml_RX9_89 : Cond.methodLink RX9 89 yX9_breakFrom ∈ zW := zW_in 707 (by decide +kernel) (by decide +kernel)
theorem wim_X9_breakFrom : Cond.instanceMethod yX9_breakFrom ∈ zW := zW_in 709 (by decide +kernel) (by decide +kernel)
theorem wco_X9_breakFrom : Cond.code yX9_breakFrom cX9_breakFrom 3 ((Option.some FieldType.int)) ∈ zW := zW_in 710 (by decide +kernel) (by decide +kernel)
theorem wml_RX9_95 : Cond.methodLink RX9 95 Lib.Math.min.name ∈ zW := zW_in 711 (by decide +kernel) (by decide +kernel)
theorem wml_RX9_92 : Cond.methodLink RX9 92 yX9_mostInSpells ∈ zW := zW_in 712 (by decide +kernel) (by decide +kernel)
theorem wim_X9_mostInSpells : Cond.instanceMethod yX9_mostInSpells ∈ zW := zW_in 714 (by decide +kernel) (by decide +kernel)
theorem wco_X9_mostInSpells : Cond.code yX9_mostInSpells cX9_mostInSpells 7 ((Option.some FieldType.int)) ∈ zW := zW_in 715 (by decide +kernel) (by decide +kernel)
theorem wml_RX9_85 : Cond.methodLink RX9 85 yX9_mostWithRestTo ∈ zW := zW_in 716 (by decide +kernel) (by decide +kernel)
theorem wim_X9_mostWithRestTo : Cond.instanceMethod yX9_mostWithRestTo ∈ zW := zW_in 718 (by decide +kernel) (by decide +kernel)
theorem wco_X9_mostWithRestTo : Cond.code yX9_mostWithRestTo cX9_mostWithRestTo 5 ((Option.some FieldType.int)) ∈ zW := zW_in 719 (by decide +kernel) (by decide +kernel)
theorem wml_RL_69 : Cond.methodLink RL 69 yX10_against ∈ zW := zW_in 720 (by decide +kernel) (by decide +kernel)
theorem wim_X10_against : Cond.instanceMethod yX10_against ∈ zW := zW_in 721 (by decide +kernel) (by decide +kernel)
theorem wse_X10_against : Cond.selects RX10 yX10_against yX10_against ∈ zW := zW_in 722 (by decide +kernel) (by decide +kernel)
theorem wco_X10_against : Cond.code yX10_against cX10_against 4 ((Option.some FieldType.int)) ∈ zW := zW_in 723 (by decide +kernel) (by decide +kernel)
theorem wml_RX10_163 : Cond.methodLink RX10 163 yX2_compare ∈ zW := zW_in 724 (by decide +kernel) (by decide +kernel)
theorem wim_X2_compare : Cond.instanceMethod yX2_compare ∈ zW := zW_in 725 (by decide +kernel) (by decide +kernel)
theorem wse_X2_compare : Cond.selects RX2 yX2_compare yX2_compare ∈ zW := zW_in 726 (by decide +kernel) (by decide +kernel)
theorem wco_X2_compare : Cond.code yX2_compare cX2_compare 8 ((Option.none : Option FieldType)) ∈ zW := zW_in 727 (by decide +kernel) (by decide +kernel)
theorem wml_RX2_33 : Cond.methodLink RX2 33 yX2_startAgain ∈ zW := zW_in 728 (by decide +kernel) (by decide +kernel)
theorem wim_X2_startAgain : Cond.instanceMethod yX2_startAgain ∈ zW := zW_in 730 (by decide +kernel) (by decide +kernel)
theorem wco_X2_startAgain : Cond.code yX2_startAgain cX2_startAgain 2 ((Option.none : Option FieldType)) ∈ zW := zW_in 731 (by decide +kernel) (by decide +kernel)
theorem wml_RX2_36 : Cond.methodLink RX2 36 yX2_isDriven ∈ zW := zW_in 732 (by decide +kernel) (by decide +kernel)
theorem wim_X2_isDriven : Cond.instanceMethod yX2_isDriven ∈ zW := zW_in 734 (by decide +kernel) (by decide +kernel)
theorem wco_X2_isDriven : Cond.code yX2_isDriven cX2_isDriven 6 ((Option.some FieldType.boolean)) ∈ zW := zW_in 735 (by decide +kernel) (by decide +kernel)
theorem wml_RX2_56 : Cond.methodLink RX2 56 Lib.Math.min.name ∈ zW := zW_in 736 (by decide +kernel) (by decide +kernel)
theorem wml_RX2_62 : Cond.methodLink RX2 62 yX1_drives ∈ zW := zW_in 737 (by decide +kernel) (by decide +kernel)
theorem wim_X1_drives : Cond.instanceMethod yX1_drives ∈ zW := zW_in 738 (by decide +kernel) (by decide +kernel)
theorem wse_X1_drives : Cond.selects RX1 yX1_drives yX1_drives ∈ zW := zW_in 739 (by decide +kernel) (by decide +kernel)
theorem wco_X1_drives : Cond.code yX1_drives cX1_drives 3 ((Option.some FieldType.boolean)) ∈ zW := zW_in 740 (by decide +kernel) (by decide +kernel)
theorem wml_RX2_40 : Cond.methodLink RX2 40 yX2_isOnTrip ∈ zW := zW_in 741 (by decide +kernel) (by decide +kernel)
theorem wim_X2_isOnTrip : Cond.instanceMethod yX2_isOnTrip ∈ zW := zW_in 743 (by decide +kernel) (by decide +kernel)
theorem wco_X2_isOnTrip : Cond.code yX2_isOnTrip cX2_isOnTrip 4 ((Option.some FieldType.boolean)) ∈ zW := zW_in 744 (by decide +kernel) (by decide +kernel)
theorem wml_RX2_44 : Cond.methodLink RX2 44 yX2_addMinutes ∈ zW := zW_in 745 (by decide +kernel) (by decide +kernel)
theorem wim_X2_addMinutes : Cond.instanceMethod yX2_addMinutes ∈ zW := zW_in 747 (by decide +kernel) (by decide +kernel)
theorem wco_X2_addMinutes : Cond.code yX2_addMinutes cX2_addMinutes 4 ((Option.none : Option FieldType)) ∈ zW := zW_in 748 (by decide +kernel) (by decide +kernel)
theorem wml_RL_74 : Cond.methodLink RL 74 yX10_look ∈ zW := zW_in 749 (by decide +kernel) (by decide +kernel)
theorem wim_X10_look : Cond.instanceMethod yX10_look ∈ zW := zW_in 750 (by decide +kernel) (by decide +kernel)
theorem wse_X10_look : Cond.selects RX10 yX10_look yX10_look ∈ zW := zW_in 751 (by decide +kernel) (by decide +kernel)
theorem wco_X10_look : Cond.code yX10_look cX10_look 5 ((Option.some FieldType.int)) ∈ zW := zW_in 752 (by decide +kernel) (by decide +kernel)
theorem wml_RL_79 : Cond.methodLink RL 79 yX10_count ∈ zW := zW_in 753 (by decide +kernel) (by decide +kernel)
theorem wim_X10_count : Cond.instanceMethod yX10_count ∈ zW := zW_in 754 (by decide +kernel) (by decide +kernel)
theorem wse_X10_count : Cond.selects RX10 yX10_count yX10_count ∈ zW := zW_in 755 (by decide +kernel) (by decide +kernel)
theorem wco_X10_count : Cond.code yX10_count cX10_count 4 ((Option.some FieldType.int)) ∈ zW := zW_in 756 (by decide +kernel) (by decide +kernel)
theorem wml_RX10_185 : Cond.methodLink RX10 185 yX10_countOfAll ∈ zW := zW_in 757 (by decide +kernel) (by decide +kernel)
theorem wim_X10_countOfAll : Cond.instanceMethod yX10_countOfAll ∈ zW := zW_in 759 (by decide +kernel) (by decide +kernel)
theorem wco_X10_countOfAll : Cond.code yX10_countOfAll cX10_countOfAll 2 ((Option.some FieldType.int)) ∈ zW := zW_in 760 (by decide +kernel) (by decide +kernel)
theorem wml_RX10_200 : Cond.methodLink RX10 200 yX6_longestRun ∈ zW := zW_in 761 (by decide +kernel) (by decide +kernel)
theorem wim_X6_longestRun : Cond.instanceMethod yX6_longestRun ∈ zW := zW_in 762 (by decide +kernel) (by decide +kernel)
theorem wse_X6_longestRun : Cond.selects RX6 yX6_longestRun yX6_longestRun ∈ zW := zW_in 763 (by decide +kernel) (by decide +kernel)
theorem wco_X6_longestRun : Cond.code yX6_longestRun cX6_longestRun 3 ((Option.some FieldType.int)) ∈ zW := zW_in 764 (by decide +kernel) (by decide +kernel)
theorem wml_RX6_58 : Cond.methodLink RX6 58 yX6_runLength ∈ zW := zW_in 765 (by decide +kernel) (by decide +kernel)
theorem wml_RX6_62 : Cond.methodLink RX6 62 Lib.Math.max.name ∈ zW := zW_in 766 (by decide +kernel) (by decide +kernel)
theorem wcl_RL_10 : Cond.classLink RL 10 RX11 ∈ zW := zW_in 767 (by decide +kernel) (by decide +kernel)
theorem wis_RX11 : Cond.instantiable RX11 34 ∈ zW := zW_in 768 (by decide +kernel) (by decide +kernel)
theorem wml_RL_12 : Cond.methodLink RL 12 yX11_init ∈ zW := zW_in 769 (by decide +kernel) (by decide +kernel)
theorem wim_X11_init : Cond.instanceMethod yX11_init ∈ zW := zW_in 770 (by decide +kernel) (by decide +kernel)
theorem wco_X11_init : Cond.code yX11_init cX11_init 1 ((Option.none : Option FieldType)) ∈ zW := zW_in 771 (by decide +kernel) (by decide +kernel)
theorem wml_RX11_1 : Cond.methodLink RX11 1 objectInit ∈ zW := zW_in 772 (by decide +kernel) (by decide +kernel)
theorem wml_RX11_84 : Cond.methodLink RX11 84 yX11_begins ∈ zW := zW_in 773 (by decide +kernel) (by decide +kernel)
theorem wst_X11_begins : Cond.static yX11_begins ∈ zW := zW_in 774 (by decide +kernel) (by decide +kernel)
theorem wco_X11_begins : Cond.code yX11_begins cX11_begins 1 ((Option.none : Option FieldType)) ∈ zW := zW_in 775 (by decide +kernel) (by decide +kernel)
theorem wfl_RX11_7 : Cond.fieldLink RX11 7 "WheelHoursModel" "tape" "[B" ∈ zW := zW_in 776 (by decide +kernel) (by decide +kernel)
theorem wfl_RX11_88 : Cond.fieldLink RX11 88 "WheelHoursModel" "taped" "I" ∈ zW := zW_in 777 (by decide +kernel) (by decide +kernel)
theorem wfl_RX11_13 : Cond.fieldLink RX11 13 "WheelHoursModel" "rules" "[I" ∈ zW := zW_in 778 (by decide +kernel) (by decide +kernel)
theorem wfl_RX11_17 : Cond.fieldLink RX11 17 "WheelHoursModel" "said" "[I" ∈ zW := zW_in 779 (by decide +kernel) (by decide +kernel)
theorem wfl_RX11_20 : Cond.fieldLink RX11 20 "WheelHoursModel" "acts" "[I" ∈ zW := zW_in 780 (by decide +kernel) (by decide +kernel)
theorem wfl_RX11_23 : Cond.fieldLink RX11 23 "WheelHoursModel" "minutes" "[I" ∈ zW := zW_in 781 (by decide +kernel) (by decide +kernel)
theorem wfl_RX11_26 : Cond.fieldLink RX11 26 "WheelHoursModel" "kindOf" "[I" ∈ zW := zW_in 782 (by decide +kernel) (by decide +kernel)
theorem wfl_RX11_29 : Cond.fieldLink RX11 29 "WheelHoursModel" "lengthOf" "[I" ∈ zW := zW_in 783 (by decide +kernel) (by decide +kernel)
theorem wfl_RX11_32 : Cond.fieldLink RX11 32 "WheelHoursModel" "vehicleOf" "[I" ∈ zW := zW_in 784 (by decide +kernel) (by decide +kernel)
theorem wfl_RX11_35 : Cond.fieldLink RX11 35 "WheelHoursModel" "trips" "[I" ∈ zW := zW_in 785 (by decide +kernel) (by decide +kernel)
theorem wfl_RX11_38 : Cond.fieldLink RX11 38 "WheelHoursModel" "tripFrom" "[I" ∈ zW := zW_in 786 (by decide +kernel) (by decide +kernel)
theorem wfl_RX11_41 : Cond.fieldLink RX11 41 "WheelHoursModel" "tripTo" "[I" ∈ zW := zW_in 787 (by decide +kernel) (by decide +kernel)
theorem wfl_RX11_44 : Cond.fieldLink RX11 44 "WheelHoursModel" "laid" "[I" ∈ zW := zW_in 788 (by decide +kernel) (by decide +kernel)
theorem wfl_RX11_47 : Cond.fieldLink RX11 47 "WheelHoursModel" "driven" "[I" ∈ zW := zW_in 789 (by decide +kernel) (by decide +kernel)
theorem wfl_RX11_50 : Cond.fieldLink RX11 50 "WheelHoursModel" "runFrom" "[I" ∈ zW := zW_in 790 (by decide +kernel) (by decide +kernel)
theorem wfl_RX11_53 : Cond.fieldLink RX11 53 "WheelHoursModel" "runTo" "[I" ∈ zW := zW_in 791 (by decide +kernel) (by decide +kernel)
theorem wfl_RX11_121 : Cond.fieldLink RX11 121 "WheelHoursModel" "size" "I" ∈ zW := zW_in 792 (by decide +kernel) (by decide +kernel)
theorem wfl_RX11_128 : Cond.fieldLink RX11 128 "WheelHoursModel" "runs" "I" ∈ zW := zW_in 793 (by decide +kernel) (by decide +kernel)
theorem wfl_RX11_56 : Cond.fieldLink RX11 56 "WheelHoursModel" "foundAt" "[I" ∈ zW := zW_in 794 (by decide +kernel) (by decide +kernel)
theorem wfl_RX11_59 : Cond.fieldLink RX11 59 "WheelHoursModel" "foundRule" "[I" ∈ zW := zW_in 795 (by decide +kernel) (by decide +kernel)
theorem wfl_RX11_62 : Cond.fieldLink RX11 62 "WheelHoursModel" "foundMany" "[I" ∈ zW := zW_in 796 (by decide +kernel) (by decide +kernel)
theorem wfl_RX11_131 : Cond.fieldLink RX11 131 "WheelHoursModel" "found" "I" ∈ zW := zW_in 797 (by decide +kernel) (by decide +kernel)
theorem wfl_RX11_138 : Cond.fieldLink RX11 138 "WheelHoursModel" "counted" "I" ∈ zW := zW_in 798 (by decide +kernel) (by decide +kernel)
theorem wfl_RX11_134 : Cond.fieldLink RX11 134 "WheelHoursModel" "isParted" "Z" ∈ zW := zW_in 799 (by decide +kernel) (by decide +kernel)
theorem wfl_RX11_65 : Cond.fieldLink RX11 65 "WheelHoursModel" "maybe" "[I" ∈ zW := zW_in 800 (by decide +kernel) (by decide +kernel)
theorem wfl_RX11_68 : Cond.fieldLink RX11 68 "WheelHoursModel" "dayFrom" "[I" ∈ zW := zW_in 801 (by decide +kernel) (by decide +kernel)
theorem wfl_RX11_71 : Cond.fieldLink RX11 71 "WheelHoursModel" "dayTo" "[I" ∈ zW := zW_in 802 (by decide +kernel) (by decide +kernel)
theorem wfl_RX11_74 : Cond.fieldLink RX11 74 "WheelHoursModel" "dayRun" "[I" ∈ zW := zW_in 803 (by decide +kernel) (by decide +kernel)
theorem wfl_RX11_77 : Cond.fieldLink RX11 77 "WheelHoursModel" "isLonger" "[Z" ∈ zW := zW_in 804 (by decide +kernel) (by decide +kernel)
theorem wfl_RX11_151 : Cond.fieldLink RX11 151 "WheelHoursModel" "maybes" "I" ∈ zW := zW_in 805 (by decide +kernel) (by decide +kernel)
theorem wfl_RX11_154 : Cond.fieldLink RX11 154 "WheelHoursModel" "days" "I" ∈ zW := zW_in 806 (by decide +kernel) (by decide +kernel)
theorem wfl_RX11_177 : Cond.fieldLink RX11 177 "WheelHoursModel" "over2" "I" ∈ zW := zW_in 807 (by decide +kernel) (by decide +kernel)
theorem wfl_RX11_164 : Cond.fieldLink RX11 164 "WheelHoursModel" "longer" "I" ∈ zW := zW_in 808 (by decide +kernel) (by decide +kernel)
theorem wfl_RX11_81 : Cond.fieldLink RX11 81 "WheelHoursModel" "driving" "[I" ∈ zW := zW_in 809 (by decide +kernel) (by decide +kernel)
theorem wac_byte : Cond.arrayClass .byte ∈ zW := zW_in 879 (by decide +kernel) (by decide +kernel)
theorem wac_boolean : Cond.arrayClass .boolean ∈ zW := zW_in 880 (by decide +kernel) (by decide +kernel)
theorem wml_RL_17 : Cond.methodLink RL 17 yX11_feed ∈ zW := zW_in 881 (by decide +kernel) (by decide +kernel)
theorem wim_X11_feed : Cond.instanceMethod yX11_feed ∈ zW := zW_in 882 (by decide +kernel) (by decide +kernel)
theorem wse_X11_feed : Cond.selects RX11 yX11_feed yX11_feed ∈ zW := zW_in 883 (by decide +kernel) (by decide +kernel)
theorem wco_X11_feed : Cond.code yX11_feed cX11_feed 6 ((Option.some FieldType.int)) ∈ zW := zW_in 884 (by decide +kernel) (by decide +kernel)
theorem wml_RX11_92 : Cond.methodLink RX11 92 yX11_types ∈ zW := zW_in 885 (by decide +kernel) (by decide +kernel)
theorem wim_X11_types : Cond.instanceMethod yX11_types ∈ zW := zW_in 887 (by decide +kernel) (by decide +kernel)
theorem wco_X11_types : Cond.code yX11_types cX11_types 3 ((Option.none : Option FieldType)) ∈ zW := zW_in 888 (by decide +kernel) (by decide +kernel)
theorem wml_RL_22 : Cond.methodLink RL 22 yX11_law ∈ zW := zW_in 889 (by decide +kernel) (by decide +kernel)
theorem wim_X11_law : Cond.instanceMethod yX11_law ∈ zW := zW_in 890 (by decide +kernel) (by decide +kernel)
theorem wse_X11_law : Cond.selects RX11 yX11_law yX11_law ∈ zW := zW_in 891 (by decide +kernel) (by decide +kernel)
theorem wco_X11_law : Cond.code yX11_law cX11_law 4 ((Option.some FieldType.int)) ∈ zW := zW_in 892 (by decide +kernel) (by decide +kernel)
theorem wml_RX11_107 : Cond.methodLink RX11 107 yX11_parse ∈ zW := zW_in 893 (by decide +kernel) (by decide +kernel)
theorem wim_X11_parse : Cond.instanceMethod yX11_parse ∈ zW := zW_in 895 (by decide +kernel) (by decide +kernel)
theorem wco_X11_parse : Cond.code yX11_parse cX11_parse 6 ((Option.some FieldType.int)) ∈ zW := zW_in 896 (by decide +kernel) (by decide +kernel)
theorem wml_RX11_96 : Cond.methodLink RX11 96 yX11_letterOf ∈ zW := zW_in 897 (by decide +kernel) (by decide +kernel)
theorem wst_X11_letterOf : Cond.static yX11_letterOf ∈ zW := zW_in 898 (by decide +kernel) (by decide +kernel)
theorem wco_X11_letterOf : Cond.code yX11_letterOf cX11_letterOf 1 ((Option.some FieldType.int)) ∈ zW := zW_in 899 (by decide +kernel) (by decide +kernel)
theorem wml_RX11_100 : Cond.methodLink RX11 100 yX11_isDigit ∈ zW := zW_in 900 (by decide +kernel) (by decide +kernel)
theorem wim_X11_isDigit : Cond.instanceMethod yX11_isDigit ∈ zW := zW_in 902 (by decide +kernel) (by decide +kernel)
theorem wco_X11_isDigit : Cond.code yX11_isDigit cX11_isDigit 3 ((Option.some FieldType.boolean)) ∈ zW := zW_in 903 (by decide +kernel) (by decide +kernel)
theorem wml_RX11_104 : Cond.methodLink RX11 104 yX11_canBe ∈ zW := zW_in 904 (by decide +kernel) (by decide +kernel)
theorem wst_X11_canBe : Cond.static yX11_canBe ∈ zW := zW_in 905 (by decide +kernel) (by decide +kernel)
theorem wco_X11_canBe : Cond.code yX11_canBe cX11_canBe 2 ((Option.some FieldType.boolean)) ∈ zW := zW_in 906 (by decide +kernel) (by decide +kernel)
theorem wml_RL_26 : Cond.methodLink RL 26 yX11_rule ∈ zW := zW_in 907 (by decide +kernel) (by decide +kernel)
theorem wim_X11_rule : Cond.instanceMethod yX11_rule ∈ zW := zW_in 908 (by decide +kernel) (by decide +kernel)
theorem wse_X11_rule : Cond.selects RX11 yX11_rule yX11_rule ∈ zW := zW_in 909 (by decide +kernel) (by decide +kernel)
theorem wco_X11_rule : Cond.code yX11_rule cX11_rule 3 ((Option.some FieldType.int)) ∈ zW := zW_in 910 (by decide +kernel) (by decide +kernel)
theorem wml_RL_31 : Cond.methodLink RL 31 yX11_act ∈ zW := zW_in 911 (by decide +kernel) (by decide +kernel)
theorem wim_X11_act : Cond.instanceMethod yX11_act ∈ zW := zW_in 912 (by decide +kernel) (by decide +kernel)
theorem wse_X11_act : Cond.selects RX11 yX11_act yX11_act ∈ zW := zW_in 913 (by decide +kernel) (by decide +kernel)
theorem wco_X11_act : Cond.code yX11_act cX11_act 6 ((Option.some FieldType.int)) ∈ zW := zW_in 914 (by decide +kernel) (by decide +kernel)
theorem wml_RX11_110 : Cond.methodLink RX11 110 yX11_isCard ∈ zW := zW_in 915 (by decide +kernel) (by decide +kernel)
theorem wst_X11_isCard : Cond.static yX11_isCard ∈ zW := zW_in 916 (by decide +kernel) (by decide +kernel)
theorem wco_X11_isCard : Cond.code yX11_isCard cX11_isCard 1 ((Option.some FieldType.boolean)) ∈ zW := zW_in 917 (by decide +kernel) (by decide +kernel)
theorem wml_RX11_114 : Cond.methodLink RX11 114 yX11_isKind ∈ zW := zW_in 918 (by decide +kernel) (by decide +kernel)
theorem wst_X11_isKind : Cond.static yX11_isKind ∈ zW := zW_in 919 (by decide +kernel) (by decide +kernel)
theorem wco_X11_isKind : Cond.code yX11_isKind cX11_isKind 2 ((Option.some FieldType.boolean)) ∈ zW := zW_in 920 (by decide +kernel) (by decide +kernel)
theorem wml_RL_36 : Cond.methodLink RL 36 yX11_put ∈ zW := zW_in 921 (by decide +kernel) (by decide +kernel)
theorem wim_X11_put : Cond.instanceMethod yX11_put ∈ zW := zW_in 922 (by decide +kernel) (by decide +kernel)
theorem wse_X11_put : Cond.selects RX11 yX11_put yX11_put ∈ zW := zW_in 923 (by decide +kernel) (by decide +kernel)
theorem wco_X11_put : Cond.code yX11_put cX11_put 5 ((Option.some FieldType.boolean)) ∈ zW := zW_in 924 (by decide +kernel) (by decide +kernel)
theorem wml_RL_41 : Cond.methodLink RL 41 yX11_trip ∈ zW := zW_in 925 (by decide +kernel) (by decide +kernel)
theorem wim_X11_trip : Cond.instanceMethod yX11_trip ∈ zW := zW_in 926 (by decide +kernel) (by decide +kernel)
theorem wse_X11_trip : Cond.selects RX11 yX11_trip yX11_trip ∈ zW := zW_in 927 (by decide +kernel) (by decide +kernel)
theorem wco_X11_trip : Cond.code yX11_trip cX11_trip 5 ((Option.some FieldType.boolean)) ∈ zW := zW_in 928 (by decide +kernel) (by decide +kernel)
theorem wml_RL_46 : Cond.methodLink RL 46 yX11_breaches ∈ zW := zW_in 929 (by decide +kernel) (by decide +kernel)
theorem wim_X11_breaches : Cond.instanceMethod yX11_breaches ∈ zW := zW_in 930 (by decide +kernel) (by decide +kernel)
theorem wse_X11_breaches : Cond.selects RX11 yX11_breaches yX11_breaches ∈ zW := zW_in 931 (by decide +kernel) (by decide +kernel)
theorem wco_X11_breaches : Cond.code yX11_breaches cX11_breaches 3 ((Option.some FieldType.int)) ∈ zW := zW_in 932 (by decide +kernel) (by decide +kernel)
theorem wml_RX11_211 : Cond.methodLink RX11 211 yX11_breaksLaw ∈ zW := zW_in 933 (by decide +kernel) (by decide +kernel)
theorem wim_X11_breaksLaw : Cond.instanceMethod yX11_breaksLaw ∈ zW := zW_in 935 (by decide +kernel) (by decide +kernel)
theorem wco_X11_breaksLaw : Cond.code yX11_breaksLaw cX11_breaksLaw 6 ((Option.none : Option FieldType)) ∈ zW := zW_in 936 (by decide +kernel) (by decide +kernel)
theorem wml_RX11_198 : Cond.methodLink RX11 198 yX11_lays ∈ zW := zW_in 937 (by decide +kernel) (by decide +kernel)
theorem wim_X11_lays : Cond.instanceMethod yX11_lays ∈ zW := zW_in 939 (by decide +kernel) (by decide +kernel)
theorem wco_X11_lays : Cond.code yX11_lays cX11_lays 6 ((Option.none : Option FieldType)) ∈ zW := zW_in 940 (by decide +kernel) (by decide +kernel)
theorem wml_RX11_124 : Cond.methodLink RX11 124 yX11_readAs ∈ zW := zW_in 941 (by decide +kernel) (by decide +kernel)
theorem wim_X11_readAs : Cond.instanceMethod yX11_readAs ∈ zW := zW_in 943 (by decide +kernel) (by decide +kernel)
theorem wco_X11_readAs : Cond.code yX11_readAs cX11_readAs 5 ((Option.some FieldType.int)) ∈ zW := zW_in 944 (by decide +kernel) (by decide +kernel)
theorem wml_RX11_117 : Cond.methodLink RX11 117 yX11_isRest ∈ zW := zW_in 945 (by decide +kernel) (by decide +kernel)
theorem wim_X11_isRest : Cond.instanceMethod yX11_isRest ∈ zW := zW_in 947 (by decide +kernel) (by decide +kernel)
theorem wco_X11_isRest : Cond.code yX11_isRest cX11_isRest 4 ((Option.some FieldType.boolean)) ∈ zW := zW_in 948 (by decide +kernel) (by decide +kernel)
theorem wml_RX11_202 : Cond.methodLink RX11 202 yX11_ruleOne ∈ zW := zW_in 949 (by decide +kernel) (by decide +kernel)
theorem wim_X11_ruleOne : Cond.instanceMethod yX11_ruleOne ∈ zW := zW_in 951 (by decide +kernel) (by decide +kernel)
theorem wco_X11_ruleOne : Cond.code yX11_ruleOne cX11_ruleOne 6 ((Option.none : Option FieldType)) ∈ zW := zW_in 952 (by decide +kernel) (by decide +kernel)
theorem wml_RX11_141 : Cond.methodLink RX11 141 yX11_runLength ∈ zW := zW_in 953 (by decide +kernel) (by decide +kernel)
theorem wim_X11_runLength : Cond.instanceMethod yX11_runLength ∈ zW := zW_in 955 (by decide +kernel) (by decide +kernel)
theorem wco_X11_runLength : Cond.code yX11_runLength cX11_runLength 2 ((Option.some FieldType.int)) ∈ zW := zW_in 956 (by decide +kernel) (by decide +kernel)
theorem wml_RX11_144 : Cond.methodLink RX11 144 yX11_resets ∈ zW := zW_in 957 (by decide +kernel) (by decide +kernel)
theorem wim_X11_resets : Cond.instanceMethod yX11_resets ∈ zW := zW_in 959 (by decide +kernel) (by decide +kernel)
theorem wco_X11_resets : Cond.code yX11_resets cX11_resets 2 ((Option.some FieldType.boolean)) ∈ zW := zW_in 960 (by decide +kernel) (by decide +kernel)
theorem wml_RX11_147 : Cond.methodLink RX11 147 yX11_tells ∈ zW := zW_in 961 (by decide +kernel) (by decide +kernel)
theorem wim_X11_tells : Cond.instanceMethod yX11_tells ∈ zW := zW_in 963 (by decide +kernel) (by decide +kernel)
theorem wco_X11_tells : Cond.code yX11_tells cX11_tells 5 ((Option.none : Option FieldType)) ∈ zW := zW_in 964 (by decide +kernel) (by decide +kernel)
theorem wml_RX11_205 : Cond.methodLink RX11 205 yX11_chooses ∈ zW := zW_in 965 (by decide +kernel) (by decide +kernel)
theorem wim_X11_chooses : Cond.instanceMethod yX11_chooses ∈ zW := zW_in 967 (by decide +kernel) (by decide +kernel)
theorem wco_X11_chooses : Cond.code yX11_chooses cX11_chooses 6 ((Option.none : Option FieldType)) ∈ zW := zW_in 968 (by decide +kernel) (by decide +kernel)
theorem wml_RX11_183 : Cond.methodLink RX11 183 yX11_finds ∈ zW := zW_in 969 (by decide +kernel) (by decide +kernel)
theorem wim_X11_finds : Cond.instanceMethod yX11_finds ∈ zW := zW_in 971 (by decide +kernel) (by decide +kernel)
theorem wco_X11_finds : Cond.code yX11_finds cX11_finds 2 ((Option.none : Option FieldType)) ∈ zW := zW_in 972 (by decide +kernel) (by decide +kernel)
theorem wml_RX11_186 : Cond.methodLink RX11 186 yX11_reckons ∈ zW := zW_in 973 (by decide +kernel) (by decide +kernel)
theorem wim_X11_reckons : Cond.instanceMethod yX11_reckons ∈ zW := zW_in 975 (by decide +kernel) (by decide +kernel)
theorem wco_X11_reckons : Cond.code yX11_reckons cX11_reckons 3 ((Option.none : Option FieldType)) ∈ zW := zW_in 976 (by decide +kernel) (by decide +kernel)
theorem wml_RX11_171 : Cond.methodLink RX11 171 yX11_parts ∈ zW := zW_in 977 (by decide +kernel) (by decide +kernel)
theorem wim_X11_parts : Cond.instanceMethod yX11_parts ∈ zW := zW_in 979 (by decide +kernel) (by decide +kernel)
theorem wco_X11_parts : Cond.code yX11_parts cX11_parts 4 ((Option.none : Option FieldType)) ∈ zW := zW_in 980 (by decide +kernel) (by decide +kernel)
theorem wml_RX11_157 : Cond.methodLink RX11 157 yX11_isTaken ∈ zW := zW_in 981 (by decide +kernel) (by decide +kernel)
theorem wim_X11_isTaken : Cond.instanceMethod yX11_isTaken ∈ zW := zW_in 983 (by decide +kernel) (by decide +kernel)
theorem wco_X11_isTaken : Cond.code yX11_isTaken cX11_isTaken 4 ((Option.some FieldType.boolean)) ∈ zW := zW_in 984 (by decide +kernel) (by decide +kernel)
theorem wml_RX11_174 : Cond.methodLink RX11 174 yX11_extendsDays ∈ zW := zW_in 985 (by decide +kernel) (by decide +kernel)
theorem wim_X11_extendsDays : Cond.instanceMethod yX11_extendsDays ∈ zW := zW_in 987 (by decide +kernel) (by decide +kernel)
theorem wco_X11_extendsDays : Cond.code yX11_extendsDays cX11_extendsDays 8 ((Option.none : Option FieldType)) ∈ zW := zW_in 988 (by decide +kernel) (by decide +kernel)
theorem wml_RX11_167 : Cond.methodLink RX11 167 yX11_overOf ∈ zW := zW_in 989 (by decide +kernel) (by decide +kernel)
theorem wim_X11_overOf : Cond.instanceMethod yX11_overOf ∈ zW := zW_in 991 (by decide +kernel) (by decide +kernel)
theorem wco_X11_overOf : Cond.code yX11_overOf cX11_overOf 4 ((Option.some FieldType.int)) ∈ zW := zW_in 992 (by decide +kernel) (by decide +kernel)
theorem wml_RX11_160 : Cond.methodLink RX11 160 yX11_driveIn ∈ zW := zW_in 993 (by decide +kernel) (by decide +kernel)
theorem wim_X11_driveIn : Cond.instanceMethod yX11_driveIn ∈ zW := zW_in 995 (by decide +kernel) (by decide +kernel)
theorem wco_X11_driveIn : Cond.code yX11_driveIn cX11_driveIn 3 ((Option.some FieldType.int)) ∈ zW := zW_in 996 (by decide +kernel) (by decide +kernel)
theorem wml_RX11_180 : Cond.methodLink RX11 180 yX11_lateOf ∈ zW := zW_in 997 (by decide +kernel) (by decide +kernel)
theorem wim_X11_lateOf : Cond.instanceMethod yX11_lateOf ∈ zW := zW_in 999 (by decide +kernel) (by decide +kernel)
theorem wco_X11_lateOf : Cond.code yX11_lateOf cX11_lateOf 5 ((Option.some FieldType.int)) ∈ zW := zW_in 1000 (by decide +kernel) (by decide +kernel)
theorem wml_RX11_189 : Cond.methodLink RX11 189 yX11_mayBe ∈ zW := zW_in 1001 (by decide +kernel) (by decide +kernel)
theorem wim_X11_mayBe : Cond.instanceMethod yX11_mayBe ∈ zW := zW_in 1003 (by decide +kernel) (by decide +kernel)
theorem wco_X11_mayBe : Cond.code yX11_mayBe cX11_mayBe 5 ((Option.some FieldType.boolean)) ∈ zW := zW_in 1004 (by decide +kernel) (by decide +kernel)
theorem wml_RX11_192 : Cond.methodLink RX11 192 yX11_bits ∈ zW := zW_in 1005 (by decide +kernel) (by decide +kernel)
theorem wst_X11_bits : Cond.static yX11_bits ∈ zW := zW_in 1006 (by decide +kernel) (by decide +kernel)
theorem wco_X11_bits : Cond.code yX11_bits cX11_bits 3 ((Option.some FieldType.int)) ∈ zW := zW_in 1007 (by decide +kernel) (by decide +kernel)
theorem wml_RX11_195 : Cond.methodLink RX11 195 yX11_isEarlier ∈ zW := zW_in 1008 (by decide +kernel) (by decide +kernel)
theorem wst_X11_isEarlier : Cond.static yX11_isEarlier ∈ zW := zW_in 1009 (by decide +kernel) (by decide +kernel)
theorem wco_X11_isEarlier : Cond.code yX11_isEarlier cX11_isEarlier 3 ((Option.some FieldType.boolean)) ∈ zW := zW_in 1010 (by decide +kernel) (by decide +kernel)
theorem wml_RX11_208 : Cond.methodLink RX11 208 yX11_goesAbove ∈ zW := zW_in 1011 (by decide +kernel) (by decide +kernel)
theorem wim_X11_goesAbove : Cond.instanceMethod yX11_goesAbove ∈ zW := zW_in 1013 (by decide +kernel) (by decide +kernel)
theorem wco_X11_goesAbove : Cond.code yX11_goesAbove cX11_goesAbove 4 ((Option.some FieldType.int)) ∈ zW := zW_in 1014 (by decide +kernel) (by decide +kernel)
theorem wml_RL_51 : Cond.methodLink RL 51 yX11_breach ∈ zW := zW_in 1015 (by decide +kernel) (by decide +kernel)
theorem wim_X11_breach : Cond.instanceMethod yX11_breach ∈ zW := zW_in 1016 (by decide +kernel) (by decide +kernel)
theorem wse_X11_breach : Cond.selects RX11 yX11_breach yX11_breach ∈ zW := zW_in 1017 (by decide +kernel) (by decide +kernel)
theorem wco_X11_breach : Cond.code yX11_breach cX11_breach 5 ((Option.some FieldType.int)) ∈ zW := zW_in 1018 (by decide +kernel) (by decide +kernel)
theorem wml_RL_55 : Cond.methodLink RL 55 yX11_weight ∈ zW := zW_in 1019 (by decide +kernel) (by decide +kernel)
theorem wim_X11_weight : Cond.instanceMethod yX11_weight ∈ zW := zW_in 1020 (by decide +kernel) (by decide +kernel)
theorem wse_X11_weight : Cond.selects RX11 yX11_weight yX11_weight ∈ zW := zW_in 1021 (by decide +kernel) (by decide +kernel)
theorem wco_X11_weight : Cond.code yX11_weight cX11_weight 3 ((Option.some FieldType.int)) ∈ zW := zW_in 1022 (by decide +kernel) (by decide +kernel)
theorem wml_RL_59 : Cond.methodLink RL 59 yX11_day ∈ zW := zW_in 1023 (by decide +kernel) (by decide +kernel)
theorem wim_X11_day : Cond.instanceMethod yX11_day ∈ zW := zW_in 1024 (by decide +kernel) (by decide +kernel)
theorem wse_X11_day : Cond.selects RX11 yX11_day yX11_day ∈ zW := zW_in 1025 (by decide +kernel) (by decide +kernel)
theorem wco_X11_day : Cond.code yX11_day cX11_day 5 ((Option.some FieldType.int)) ∈ zW := zW_in 1026 (by decide +kernel) (by decide +kernel)
theorem wml_RL_63 : Cond.methodLink RL 63 yX11_may ∈ zW := zW_in 1027 (by decide +kernel) (by decide +kernel)
theorem wim_X11_may : Cond.instanceMethod yX11_may ∈ zW := zW_in 1028 (by decide +kernel) (by decide +kernel)
theorem wse_X11_may : Cond.selects RX11 yX11_may yX11_may ∈ zW := zW_in 1029 (by decide +kernel) (by decide +kernel)
theorem wco_X11_may : Cond.code yX11_may cX11_may 5 ((Option.some FieldType.int)) ∈ zW := zW_in 1030 (by decide +kernel) (by decide +kernel)
theorem wml_RX11_214 : Cond.methodLink RX11 214 yX11_open ∈ zW := zW_in 1031 (by decide +kernel) (by decide +kernel)
theorem wim_X11_open : Cond.instanceMethod yX11_open ∈ zW := zW_in 1033 (by decide +kernel) (by decide +kernel)
theorem wco_X11_open : Cond.code yX11_open cX11_open 4 ((Option.some FieldType.int)) ∈ zW := zW_in 1034 (by decide +kernel) (by decide +kernel)
theorem wml_RL_68 : Cond.methodLink RL 68 yX11_most ∈ zW := zW_in 1035 (by decide +kernel) (by decide +kernel)
theorem wim_X11_most : Cond.instanceMethod yX11_most ∈ zW := zW_in 1036 (by decide +kernel) (by decide +kernel)
theorem wse_X11_most : Cond.selects RX11 yX11_most yX11_most ∈ zW := zW_in 1037 (by decide +kernel) (by decide +kernel)
theorem wco_X11_most : Cond.code yX11_most cX11_most 10 ((Option.some FieldType.int)) ∈ zW := zW_in 1038 (by decide +kernel) (by decide +kernel)
theorem wml_RX11_218 : Cond.methodLink RX11 218 yX11_lesser ∈ zW := zW_in 1039 (by decide +kernel) (by decide +kernel)
theorem wst_X11_lesser : Cond.static yX11_lesser ∈ zW := zW_in 1040 (by decide +kernel) (by decide +kernel)
theorem wco_X11_lesser : Cond.code yX11_lesser cX11_lesser 2 ((Option.some FieldType.int)) ∈ zW := zW_in 1041 (by decide +kernel) (by decide +kernel)
theorem wml_RX11_221 : Cond.methodLink RX11 221 yX11_wholeOr ∈ zW := zW_in 1042 (by decide +kernel) (by decide +kernel)
theorem wim_X11_wholeOr : Cond.instanceMethod yX11_wholeOr ∈ zW := zW_in 1044 (by decide +kernel) (by decide +kernel)
theorem wco_X11_wholeOr : Cond.code yX11_wholeOr cX11_wholeOr 2 ((Option.some FieldType.int)) ∈ zW := zW_in 1045 (by decide +kernel) (by decide +kernel)
theorem wml_RX11_225 : Cond.methodLink RX11 225 yX11_mostOf ∈ zW := zW_in 1046 (by decide +kernel) (by decide +kernel)
theorem wim_X11_mostOf : Cond.instanceMethod yX11_mostOf ∈ zW := zW_in 1048 (by decide +kernel) (by decide +kernel)
theorem wco_X11_mostOf : Cond.code yX11_mostOf cX11_mostOf 7 ((Option.some FieldType.int)) ∈ zW := zW_in 1049 (by decide +kernel) (by decide +kernel)
theorem wml_RX11_229 : Cond.methodLink RX11 229 yX11_greater ∈ zW := zW_in 1050 (by decide +kernel) (by decide +kernel)
theorem wst_X11_greater : Cond.static yX11_greater ∈ zW := zW_in 1051 (by decide +kernel) (by decide +kernel)
theorem wco_X11_greater : Cond.code yX11_greater cX11_greater 2 ((Option.some FieldType.int)) ∈ zW := zW_in 1052 (by decide +kernel) (by decide +kernel)
theorem wml_RL_73 : Cond.methodLink RL 73 yX11_against ∈ zW := zW_in 1053 (by decide +kernel) (by decide +kernel)
theorem wim_X11_against : Cond.instanceMethod yX11_against ∈ zW := zW_in 1054 (by decide +kernel) (by decide +kernel)
theorem wse_X11_against : Cond.selects RX11 yX11_against yX11_against ∈ zW := zW_in 1055 (by decide +kernel) (by decide +kernel)
theorem wco_X11_against : Cond.code yX11_against cX11_against 8 ((Option.some FieldType.int)) ∈ zW := zW_in 1056 (by decide +kernel) (by decide +kernel)
theorem wml_RX11_232 : Cond.methodLink RX11 232 yX11_isOnTrip ∈ zW := zW_in 1057 (by decide +kernel) (by decide +kernel)
theorem wim_X11_isOnTrip : Cond.instanceMethod yX11_isOnTrip ∈ zW := zW_in 1059 (by decide +kernel) (by decide +kernel)
theorem wco_X11_isOnTrip : Cond.code yX11_isOnTrip cX11_isOnTrip 4 ((Option.some FieldType.boolean)) ∈ zW := zW_in 1060 (by decide +kernel) (by decide +kernel)
theorem wml_RL_78 : Cond.methodLink RL 78 yX11_look ∈ zW := zW_in 1061 (by decide +kernel) (by decide +kernel)
theorem wim_X11_look : Cond.instanceMethod yX11_look ∈ zW := zW_in 1062 (by decide +kernel) (by decide +kernel)
theorem wse_X11_look : Cond.selects RX11 yX11_look yX11_look ∈ zW := zW_in 1063 (by decide +kernel) (by decide +kernel)
theorem wco_X11_look : Cond.code yX11_look cX11_look 7 ((Option.some FieldType.int)) ∈ zW := zW_in 1064 (by decide +kernel) (by decide +kernel)
theorem wml_RL_82 : Cond.methodLink RL 82 yX11_count ∈ zW := zW_in 1065 (by decide +kernel) (by decide +kernel)
theorem wim_X11_count : Cond.instanceMethod yX11_count ∈ zW := zW_in 1066 (by decide +kernel) (by decide +kernel)
theorem wse_X11_count : Cond.selects RX11 yX11_count yX11_count ∈ zW := zW_in 1067 (by decide +kernel) (by decide +kernel)
theorem wco_X11_count : Cond.code yX11_count cX11_count 5 ((Option.some FieldType.int)) ∈ zW := zW_in 1068 (by decide +kernel) (by decide +kernel)
theorem wac_char : Cond.arrayClass .char ∈ zW := zW_in 1069 (by decide +kernel) (by decide +kernel)
theorem wst_Math_max : Cond.static Lib.Math.max.name ∈ zW := zW_in 544 (by decide +kernel) (by decide +kernel)
theorem wco_Math_max : Cond.code Lib.Math.max.name Lib.Math.max.code 2 (some .int) ∈ zW := zW_in 545 (by decide +kernel) (by decide +kernel)
theorem wst_Math_min : Cond.static Lib.Math.min.name ∈ zW := zW_in 417 (by decide +kernel) (by decide +kernel)
theorem wco_Math_min : Cond.code Lib.Math.min.name Lib.Math.min.code 2 (some .int) ∈ zW := zW_in 418 (by decide +kernel) (by decide +kernel)
theorem wst_Math_minl : Cond.static Lib.MathLoose.min_long.x ∈ zW := zW_in 586 (by decide +kernel) (by decide +kernel)
theorem wco_Math_minl : Cond.code Lib.MathLoose.min_long.x Lib.MathLoose.min_long.code 4 (some .long) ∈ zW := zW_in 587 (by decide +kernel) (by decide +kernel)
theorem wim_objInit : Cond.instanceMethod objectInit ∈ zW := zW_in 83 (by decide +kernel) (by decide +kernel)
theorem wco_objInit : Cond.code objectInit ⟨#[0xb1]⟩ 1 none ∈ zW := zW_in 84 (by decide +kernel) (by decide +kernel)
theorem wst_copy : Cond.static arraycopyName ∈ zW := zW_in 420 (by decide +kernel) (by decide +kernel)
theorem wna_copy : Cond.native arraycopyName ∈ zW := zW_in 421 (by decide +kernel) (by decide +kernel)
theorem wu_RX0 : ∀ w ∈ u_ws RX0 TX0 4, w ∈ zW := zW_u [328, 330, 332, 334] (by decide +kernel) (by decide +kernel)
theorem wu_RX1 : ∀ w ∈ u_ws RX1 TX1 4, w ∈ zW := zW_u [145, 147, 149, 151] (by decide +kernel) (by decide +kernel)
theorem wu_RX2 : ∀ w ∈ u_ws RX2 TX2 6, w ∈ zW := zW_u [352, 354, 356, 358, 360, 362] (by decide +kernel) (by decide +kernel)
theorem wu_RX3 : ∀ w ∈ u_ws RX3 TX3 8, w ∈ zW := zW_u [256, 258, 260, 262, 264, 266, 268, 270] (by decide +kernel) (by decide +kernel)
theorem wu_RX4 : ∀ w ∈ u_ws RX4 TX4 2, w ∈ zW := zW_u [122, 124] (by decide +kernel) (by decide +kernel)
theorem wu_RX5 : ∀ w ∈ u_ws RX5 TX5 12, w ∈ zW := zW_u [291, 293, 295, 297, 299, 301, 303, 305, 307, 309, 311, 313] (by decide +kernel) (by decide +kernel)
theorem wu_RX6 : ∀ w ∈ u_ws RX6 TX6 9, w ∈ zW := zW_u [203, 205, 207, 209, 211, 213, 215, 217, 219] (by decide +kernel) (by decide +kernel)
theorem wu_RX7 : ∀ w ∈ u_ws RX7 TX7 2, w ∈ zW := zW_u [95, 97] (by decide +kernel) (by decide +kernel)
theorem wu_RX8 : ∀ w ∈ u_ws RX8 TX8 3, w ∈ zW := zW_u [168, 170, 172] (by decide +kernel) (by decide +kernel)
theorem wu_RX9 : ∀ w ∈ u_ws RX9 TX9 4, w ∈ zW := zW_u [232, 234, 236, 238] (by decide +kernel) (by decide +kernel)
theorem wu_RX10 : ∀ w ∈ u_ws RX10 TX10 10, w ∈ zW := zW_u [375, 377, 379, 381, 383, 385, 387, 389, 391, 393] (by decide +kernel) (by decide +kernel)
theorem wu_RX11 : ∀ w ∈ u_ws RX11 TX11 34, w ∈ zW := zW_u [810, 812, 814, 816, 818, 820, 822, 824, 826, 828, 830, 832, 834, 836, 838, 840, 842, 844, 846, 848, 850, 852, 854, 856, 858, 860, 862, 864, 866, 868, 870, 872, 874, 876] (by decide +kernel) (by decide +kernel)
end
section
theorem dX0_init_0 : decode cX0_init 0 = .ok (.aload_n 0, 1) := by decide +kernel
theorem dX0_init_1 : decode cX0_init 1 = .ok (.invokespecial 3, 3) := by decide +kernel
theorem dX0_init_4 : decode cX0_init 4 = .ok (.aload_n 0, 1) := by decide +kernel
theorem dX0_init_5 : decode cX0_init 5 = .ok (.sipush 185, 3) := by decide +kernel
theorem dX0_init_8 : decode cX0_init 8 = .ok (.newarray .int, 2) := by decide +kernel
theorem dX0_init_10 : decode cX0_init 10 = .ok (.putfield 11, 3) := by decide +kernel
theorem dX0_init_13 : decode cX0_init 13 = .ok (.aload_n 0, 1) := by decide +kernel
theorem dX0_init_14 : decode cX0_init 14 = .ok (.sipush 185, 3) := by decide +kernel
theorem dX0_init_17 : decode cX0_init 17 = .ok (.newarray .int, 2) := by decide +kernel
theorem dX0_init_19 : decode cX0_init 19 = .ok (.putfield 15, 3) := by decide +kernel
theorem dX0_init_22 : decode cX0_init 22 = .ok (.aload_n 0, 1) := by decide +kernel
theorem dX0_init_23 : decode cX0_init 23 = .ok (.sipush 185, 3) := by decide +kernel
theorem dX0_init_26 : decode cX0_init 26 = .ok (.newarray .int, 2) := by decide +kernel
theorem dX0_init_28 : decode cX0_init 28 = .ok (.putfield 18, 3) := by decide +kernel
theorem dX0_init_31 : decode cX0_init 31 = .ok (.aload_n 0, 1) := by decide +kernel
theorem dX0_init_32 : decode cX0_init 32 = .ok (.iconst 0, 1) := by decide +kernel
theorem dX0_init_33 : decode cX0_init 33 = .ok (.putfield 21, 3) := by decide +kernel
theorem dX0_init_36 : decode cX0_init 36 = .ok (.return_, 1) := by decide +kernel
theorem dX0_insert_0 : decode cX0_insert 0 = .ok (.aload_n 0, 1) := by decide +kernel
theorem dX0_insert_1 : decode cX0_insert 1 = .ok (.getfield 21, 3) := by decide +kernel
theorem dX0_insert_4 : decode cX0_insert 4 = .ok (.sipush 185, 3) := by decide +kernel
theorem dX0_insert_7 : decode cX0_insert 7 = .ok (.if_icmp .lt 4, 3) := by decide +kernel
theorem dX0_insert_10 : decode cX0_insert 10 = .ok (.return_, 1) := by decide +kernel
theorem dX0_insert_11 : decode cX0_insert 11 = .ok (.aload_n 0, 1) := by decide +kernel
theorem dX0_insert_12 : decode cX0_insert 12 = .ok (.getfield 21, 3) := by decide +kernel
theorem dX0_insert_15 : decode cX0_insert 15 = .ok (.istore 4, 2) := by decide +kernel
theorem dX0_insert_17 : decode cX0_insert 17 = .ok (.iload 4, 2) := by decide +kernel
theorem dX0_insert_19 : decode cX0_insert 19 = .ok (.ifCond .le 70, 3) := by decide +kernel
theorem dX0_insert_22 : decode cX0_insert 22 = .ok (.aload_n 0, 1) := by decide +kernel
theorem dX0_insert_23 : decode cX0_insert 23 = .ok (.iload 4, 2) := by decide +kernel
theorem dX0_insert_25 : decode cX0_insert 25 = .ok (.iconst 1, 1) := by decide +kernel
theorem dX0_insert_26 : decode cX0_insert 26 = .ok (.isub, 1) := by decide +kernel
theorem dX0_insert_27 : decode cX0_insert 27 = .ok (.iload_n 1, 1) := by decide +kernel
theorem dX0_insert_28 : decode cX0_insert 28 = .ok (.iload_n 2, 1) := by decide +kernel
theorem dX0_insert_29 : decode cX0_insert 29 = .ok (.invokevirtual 25, 3) := by decide +kernel
theorem dX0_insert_32 : decode cX0_insert 32 = .ok (.ifCond .eq 57, 3) := by decide +kernel
theorem dX0_insert_35 : decode cX0_insert 35 = .ok (.aload_n 0, 1) := by decide +kernel
theorem dX0_insert_36 : decode cX0_insert 36 = .ok (.getfield 11, 3) := by decide +kernel
theorem dX0_insert_39 : decode cX0_insert 39 = .ok (.iload 4, 2) := by decide +kernel
theorem dX0_insert_41 : decode cX0_insert 41 = .ok (.aload_n 0, 1) := by decide +kernel
theorem dX0_insert_42 : decode cX0_insert 42 = .ok (.getfield 11, 3) := by decide +kernel
theorem dX0_insert_45 : decode cX0_insert 45 = .ok (.iload 4, 2) := by decide +kernel
theorem dX0_insert_47 : decode cX0_insert 47 = .ok (.iconst 1, 1) := by decide +kernel
theorem dX0_insert_48 : decode cX0_insert 48 = .ok (.isub, 1) := by decide +kernel
theorem dX0_insert_49 : decode cX0_insert 49 = .ok (.iaload, 1) := by decide +kernel
theorem dX0_insert_50 : decode cX0_insert 50 = .ok (.iastore, 1) := by decide +kernel
theorem dX0_insert_51 : decode cX0_insert 51 = .ok (.aload_n 0, 1) := by decide +kernel
theorem dX0_insert_52 : decode cX0_insert 52 = .ok (.getfield 15, 3) := by decide +kernel
theorem dX0_insert_55 : decode cX0_insert 55 = .ok (.iload 4, 2) := by decide +kernel
theorem dX0_insert_57 : decode cX0_insert 57 = .ok (.aload_n 0, 1) := by decide +kernel
theorem dX0_insert_58 : decode cX0_insert 58 = .ok (.getfield 15, 3) := by decide +kernel
theorem dX0_insert_61 : decode cX0_insert 61 = .ok (.iload 4, 2) := by decide +kernel
theorem dX0_insert_63 : decode cX0_insert 63 = .ok (.iconst 1, 1) := by decide +kernel
theorem dX0_insert_64 : decode cX0_insert 64 = .ok (.isub, 1) := by decide +kernel
theorem dX0_insert_65 : decode cX0_insert 65 = .ok (.iaload, 1) := by decide +kernel
theorem dX0_insert_66 : decode cX0_insert 66 = .ok (.iastore, 1) := by decide +kernel
theorem dX0_insert_67 : decode cX0_insert 67 = .ok (.aload_n 0, 1) := by decide +kernel
theorem dX0_insert_68 : decode cX0_insert 68 = .ok (.getfield 18, 3) := by decide +kernel
theorem dX0_insert_71 : decode cX0_insert 71 = .ok (.iload 4, 2) := by decide +kernel
theorem dX0_insert_73 : decode cX0_insert 73 = .ok (.aload_n 0, 1) := by decide +kernel
theorem dX0_insert_74 : decode cX0_insert 74 = .ok (.getfield 18, 3) := by decide +kernel
theorem dX0_insert_77 : decode cX0_insert 77 = .ok (.iload 4, 2) := by decide +kernel
theorem dX0_insert_79 : decode cX0_insert 79 = .ok (.iconst 1, 1) := by decide +kernel
theorem dX0_insert_80 : decode cX0_insert 80 = .ok (.isub, 1) := by decide +kernel
theorem dX0_insert_81 : decode cX0_insert 81 = .ok (.iaload, 1) := by decide +kernel
theorem dX0_insert_82 : decode cX0_insert 82 = .ok (.iastore, 1) := by decide +kernel
theorem dX0_insert_83 : decode cX0_insert 83 = .ok (.iinc 4 (-1), 3) := by decide +kernel
theorem dX0_insert_86 : decode cX0_insert 86 = .ok (.goto (-69), 3) := by decide +kernel
theorem dX0_insert_89 : decode cX0_insert 89 = .ok (.aload_n 0, 1) := by decide +kernel
theorem dX0_insert_90 : decode cX0_insert 90 = .ok (.getfield 11, 3) := by decide +kernel
theorem dX0_insert_93 : decode cX0_insert 93 = .ok (.iload 4, 2) := by decide +kernel
theorem dX0_insert_95 : decode cX0_insert 95 = .ok (.iload_n 1, 1) := by decide +kernel
theorem dX0_insert_96 : decode cX0_insert 96 = .ok (.iastore, 1) := by decide +kernel
theorem dX0_insert_97 : decode cX0_insert 97 = .ok (.aload_n 0, 1) := by decide +kernel
theorem dX0_insert_98 : decode cX0_insert 98 = .ok (.getfield 15, 3) := by decide +kernel
theorem dX0_insert_101 : decode cX0_insert 101 = .ok (.iload 4, 2) := by decide +kernel
theorem dX0_insert_103 : decode cX0_insert 103 = .ok (.iload_n 2, 1) := by decide +kernel
theorem dX0_insert_104 : decode cX0_insert 104 = .ok (.iastore, 1) := by decide +kernel
theorem dX0_insert_105 : decode cX0_insert 105 = .ok (.aload_n 0, 1) := by decide +kernel
theorem dX0_insert_106 : decode cX0_insert 106 = .ok (.getfield 18, 3) := by decide +kernel
theorem dX0_insert_109 : decode cX0_insert 109 = .ok (.iload 4, 2) := by decide +kernel
theorem dX0_insert_111 : decode cX0_insert 111 = .ok (.iload_n 3, 1) := by decide +kernel
theorem dX0_insert_112 : decode cX0_insert 112 = .ok (.iastore, 1) := by decide +kernel
theorem dX0_insert_113 : decode cX0_insert 113 = .ok (.aload_n 0, 1) := by decide +kernel
theorem dX0_insert_114 : decode cX0_insert 114 = .ok (.dup, 1) := by decide +kernel
theorem dX0_insert_115 : decode cX0_insert 115 = .ok (.getfield 21, 3) := by decide +kernel
theorem dX0_insert_118 : decode cX0_insert 118 = .ok (.iconst 1, 1) := by decide +kernel
theorem dX0_insert_119 : decode cX0_insert 119 = .ok (.iadd, 1) := by decide +kernel
theorem dX0_insert_120 : decode cX0_insert 120 = .ok (.putfield 21, 3) := by decide +kernel
theorem dX0_insert_123 : decode cX0_insert 123 = .ok (.return_, 1) := by decide +kernel
theorem dX0_isBehind_0 : decode cX0_isBehind 0 = .ok (.aload_n 0, 1) := by decide +kernel
theorem dX0_isBehind_1 : decode cX0_isBehind 1 = .ok (.getfield 11, 3) := by decide +kernel
theorem dX0_isBehind_4 : decode cX0_isBehind 4 = .ok (.iload_n 1, 1) := by decide +kernel
theorem dX0_isBehind_5 : decode cX0_isBehind 5 = .ok (.iaload, 1) := by decide +kernel
theorem dX0_isBehind_6 : decode cX0_isBehind 6 = .ok (.iload_n 2, 1) := by decide +kernel
theorem dX0_isBehind_7 : decode cX0_isBehind 7 = .ok (.if_icmp .gt 23, 3) := by decide +kernel
theorem dX0_isBehind_10 : decode cX0_isBehind 10 = .ok (.aload_n 0, 1) := by decide +kernel
theorem dX0_isBehind_11 : decode cX0_isBehind 11 = .ok (.getfield 11, 3) := by decide +kernel
theorem dX0_isBehind_14 : decode cX0_isBehind 14 = .ok (.iload_n 1, 1) := by decide +kernel
theorem dX0_isBehind_15 : decode cX0_isBehind 15 = .ok (.iaload, 1) := by decide +kernel
theorem dX0_isBehind_16 : decode cX0_isBehind 16 = .ok (.iload_n 2, 1) := by decide +kernel
theorem dX0_isBehind_17 : decode cX0_isBehind 17 = .ok (.if_icmp .ne 17, 3) := by decide +kernel
theorem dX0_isBehind_20 : decode cX0_isBehind 20 = .ok (.aload_n 0, 1) := by decide +kernel
theorem dX0_isBehind_21 : decode cX0_isBehind 21 = .ok (.getfield 15, 3) := by decide +kernel
theorem dX0_isBehind_24 : decode cX0_isBehind 24 = .ok (.iload_n 1, 1) := by decide +kernel
theorem dX0_isBehind_25 : decode cX0_isBehind 25 = .ok (.iaload, 1) := by decide +kernel
theorem dX0_isBehind_26 : decode cX0_isBehind 26 = .ok (.iload_n 3, 1) := by decide +kernel
theorem dX0_isBehind_27 : decode cX0_isBehind 27 = .ok (.if_icmp .le 7, 3) := by decide +kernel
theorem dX0_isBehind_30 : decode cX0_isBehind 30 = .ok (.iconst 1, 1) := by decide +kernel
theorem dX0_isBehind_31 : decode cX0_isBehind 31 = .ok (.goto 4, 3) := by decide +kernel
theorem dX0_isBehind_34 : decode cX0_isBehind 34 = .ok (.iconst 0, 1) := by decide +kernel
theorem dX0_isBehind_35 : decode cX0_isBehind 35 = .ok (.ireturn, 1) := by decide +kernel
theorem dX0_tell_0 : decode cX0_tell 0 = .ok (.iload_n 1, 1) := by decide +kernel
theorem dX0_tell_1 : decode cX0_tell 1 = .ok (.ifCond .lt 11, 3) := by decide +kernel
theorem dX0_tell_4 : decode cX0_tell 4 = .ok (.iload_n 1, 1) := by decide +kernel
theorem dX0_tell_5 : decode cX0_tell 5 = .ok (.aload_n 0, 1) := by decide +kernel
theorem dX0_tell_6 : decode cX0_tell 6 = .ok (.getfield 21, 3) := by decide +kernel
theorem dX0_tell_9 : decode cX0_tell 9 = .ok (.if_icmp .lt 5, 3) := by decide +kernel
theorem dX0_tell_12 : decode cX0_tell 12 = .ok (.iconst (-1), 1) := by decide +kernel
theorem dX0_tell_13 : decode cX0_tell 13 = .ok (.ireturn, 1) := by decide +kernel
theorem dX0_tell_14 : decode cX0_tell 14 = .ok (.iload_n 2, 1) := by decide +kernel
theorem dX0_tell_15 : decode cX0_tell 15 = .ok (.tableswitch 46 0 2 #[25, 32, 39], 25) := by decide +kernel
theorem dX0_tell_40 : decode cX0_tell 40 = .ok (.aload_n 0, 1) := by decide +kernel
theorem dX0_tell_41 : decode cX0_tell 41 = .ok (.getfield 11, 3) := by decide +kernel
theorem dX0_tell_44 : decode cX0_tell 44 = .ok (.iload_n 1, 1) := by decide +kernel
theorem dX0_tell_45 : decode cX0_tell 45 = .ok (.iaload, 1) := by decide +kernel
theorem dX0_tell_46 : decode cX0_tell 46 = .ok (.ireturn, 1) := by decide +kernel
theorem dX0_tell_47 : decode cX0_tell 47 = .ok (.aload_n 0, 1) := by decide +kernel
theorem dX0_tell_48 : decode cX0_tell 48 = .ok (.getfield 15, 3) := by decide +kernel
theorem dX0_tell_51 : decode cX0_tell 51 = .ok (.iload_n 1, 1) := by decide +kernel
theorem dX0_tell_52 : decode cX0_tell 52 = .ok (.iaload, 1) := by decide +kernel
theorem dX0_tell_53 : decode cX0_tell 53 = .ok (.ireturn, 1) := by decide +kernel
theorem dX0_tell_54 : decode cX0_tell 54 = .ok (.aload_n 0, 1) := by decide +kernel
theorem dX0_tell_55 : decode cX0_tell 55 = .ok (.getfield 18, 3) := by decide +kernel
theorem dX0_tell_58 : decode cX0_tell 58 = .ok (.iload_n 1, 1) := by decide +kernel
theorem dX0_tell_59 : decode cX0_tell 59 = .ok (.iaload, 1) := by decide +kernel
theorem dX0_tell_60 : decode cX0_tell 60 = .ok (.ireturn, 1) := by decide +kernel
theorem dX0_tell_61 : decode cX0_tell 61 = .ok (.iconst (-1), 1) := by decide +kernel
theorem dX0_tell_62 : decode cX0_tell 62 = .ok (.ireturn, 1) := by decide +kernel
theorem dX1_init_0 : decode cX1_init 0 = .ok (.aload_n 0, 1) := by decide +kernel
theorem dX1_init_1 : decode cX1_init 1 = .ok (.invokespecial 3, 3) := by decide +kernel
theorem dX1_init_4 : decode cX1_init 4 = .ok (.aload_n 0, 1) := by decide +kernel
theorem dX1_init_5 : decode cX1_init 5 = .ok (.bipush 60, 2) := by decide +kernel
theorem dX1_init_7 : decode cX1_init 7 = .ok (.newarray .int, 2) := by decide +kernel
theorem dX1_init_9 : decode cX1_init 9 = .ok (.putfield 9, 3) := by decide +kernel
theorem dX1_init_12 : decode cX1_init 12 = .ok (.aload_n 0, 1) := by decide +kernel
theorem dX1_init_13 : decode cX1_init 13 = .ok (.bipush 60, 2) := by decide +kernel
theorem dX1_init_15 : decode cX1_init 15 = .ok (.newarray .int, 2) := by decide +kernel
theorem dX1_init_17 : decode cX1_init 17 = .ok (.putfield 15, 3) := by decide +kernel
theorem dX1_init_20 : decode cX1_init 20 = .ok (.aload_n 0, 1) := by decide +kernel
theorem dX1_init_21 : decode cX1_init 21 = .ok (.bipush 61, 2) := by decide +kernel
theorem dX1_init_23 : decode cX1_init 23 = .ok (.newarray .int, 2) := by decide +kernel
theorem dX1_init_25 : decode cX1_init 25 = .ok (.putfield 18, 3) := by decide +kernel
theorem dX1_init_28 : decode cX1_init 28 = .ok (.aload_n 0, 1) := by decide +kernel
theorem dX1_init_29 : decode cX1_init 29 = .ok (.iconst 0, 1) := by decide +kernel
theorem dX1_init_30 : decode cX1_init 30 = .ok (.putfield 21, 3) := by decide +kernel
theorem dX1_init_33 : decode cX1_init 33 = .ok (.return_, 1) := by decide +kernel
theorem dX1_has_0 : decode cX1_has 0 = .ok (.iload_n 1, 1) := by decide +kernel
theorem dX1_has_1 : decode cX1_has 1 = .ok (.ifCond .lt 15, 3) := by decide +kernel
theorem dX1_has_4 : decode cX1_has 4 = .ok (.iload_n 1, 1) := by decide +kernel
theorem dX1_has_5 : decode cX1_has 5 = .ok (.aload_n 0, 1) := by decide +kernel
theorem dX1_has_6 : decode cX1_has 6 = .ok (.getfield 21, 3) := by decide +kernel
theorem dX1_has_9 : decode cX1_has 9 = .ok (.if_icmp .ge 7, 3) := by decide +kernel
theorem dX1_has_12 : decode cX1_has 12 = .ok (.iconst 1, 1) := by decide +kernel
theorem dX1_has_13 : decode cX1_has 13 = .ok (.goto 4, 3) := by decide +kernel
theorem dX1_has_16 : decode cX1_has 16 = .ok (.iconst 0, 1) := by decide +kernel
theorem dX1_has_17 : decode cX1_has 17 = .ok (.ireturn, 1) := by decide +kernel
theorem dX1_hasRoom_0 : decode cX1_hasRoom 0 = .ok (.iload_n 1, 1) := by decide +kernel
theorem dX1_hasRoom_1 : decode cX1_hasRoom 1 = .ok (.iconst 1, 1) := by decide +kernel
theorem dX1_hasRoom_2 : decode cX1_hasRoom 2 = .ok (.if_icmp .lt 33, 3) := by decide +kernel
theorem dX1_hasRoom_5 : decode cX1_hasRoom 5 = .ok (.aload_n 0, 1) := by decide +kernel
theorem dX1_hasRoom_6 : decode cX1_hasRoom 6 = .ok (.getfield 21, 3) := by decide +kernel
theorem dX1_hasRoom_9 : decode cX1_hasRoom 9 = .ok (.bipush 60, 2) := by decide +kernel
theorem dX1_hasRoom_11 : decode cX1_hasRoom 11 = .ok (.if_icmp .ge 24, 3) := by decide +kernel
theorem dX1_hasRoom_14 : decode cX1_hasRoom 14 = .ok (.iload_n 1, 1) := by decide +kernel
theorem dX1_hasRoom_15 : decode cX1_hasRoom 15 = .ok (.sipush 20160, 3) := by decide +kernel
theorem dX1_hasRoom_18 : decode cX1_hasRoom 18 = .ok (.aload_n 0, 1) := by decide +kernel
theorem dX1_hasRoom_19 : decode cX1_hasRoom 19 = .ok (.getfield 18, 3) := by decide +kernel
theorem dX1_hasRoom_22 : decode cX1_hasRoom 22 = .ok (.aload_n 0, 1) := by decide +kernel
theorem dX1_hasRoom_23 : decode cX1_hasRoom 23 = .ok (.getfield 21, 3) := by decide +kernel
theorem dX1_hasRoom_26 : decode cX1_hasRoom 26 = .ok (.iaload, 1) := by decide +kernel
theorem dX1_hasRoom_27 : decode cX1_hasRoom 27 = .ok (.isub, 1) := by decide +kernel
theorem dX1_hasRoom_28 : decode cX1_hasRoom 28 = .ok (.if_icmp .gt 7, 3) := by decide +kernel
theorem dX1_hasRoom_31 : decode cX1_hasRoom 31 = .ok (.iconst 1, 1) := by decide +kernel
theorem dX1_hasRoom_32 : decode cX1_hasRoom 32 = .ok (.goto 4, 3) := by decide +kernel
theorem dX1_hasRoom_35 : decode cX1_hasRoom 35 = .ok (.iconst 0, 1) := by decide +kernel
theorem dX1_hasRoom_36 : decode cX1_hasRoom 36 = .ok (.ireturn, 1) := by decide +kernel
theorem dX1_append_0 : decode cX1_append 0 = .ok (.aload_n 0, 1) := by decide +kernel
theorem dX1_append_1 : decode cX1_append 1 = .ok (.getfield 21, 3) := by decide +kernel
theorem dX1_append_4 : decode cX1_append 4 = .ok (.istore 4, 2) := by decide +kernel
theorem dX1_append_6 : decode cX1_append 6 = .ok (.aload_n 0, 1) := by decide +kernel
theorem dX1_append_7 : decode cX1_append 7 = .ok (.dup, 1) := by decide +kernel
theorem dX1_append_8 : decode cX1_append 8 = .ok (.getfield 21, 3) := by decide +kernel
theorem dX1_append_11 : decode cX1_append 11 = .ok (.iconst 1, 1) := by decide +kernel
theorem dX1_append_12 : decode cX1_append 12 = .ok (.iadd, 1) := by decide +kernel
theorem dX1_append_13 : decode cX1_append 13 = .ok (.putfield 21, 3) := by decide +kernel
theorem dX1_append_16 : decode cX1_append 16 = .ok (.aload_n 0, 1) := by decide +kernel
theorem dX1_append_17 : decode cX1_append 17 = .ok (.getfield 18, 3) := by decide +kernel
theorem dX1_append_20 : decode cX1_append 20 = .ok (.aload_n 0, 1) := by decide +kernel
theorem dX1_append_21 : decode cX1_append 21 = .ok (.getfield 21, 3) := by decide +kernel
theorem dX1_append_24 : decode cX1_append 24 = .ok (.aload_n 0, 1) := by decide +kernel
theorem dX1_append_25 : decode cX1_append 25 = .ok (.getfield 18, 3) := by decide +kernel
theorem dX1_append_28 : decode cX1_append 28 = .ok (.iload 4, 2) := by decide +kernel
theorem dX1_append_30 : decode cX1_append 30 = .ok (.iaload, 1) := by decide +kernel
theorem dX1_append_31 : decode cX1_append 31 = .ok (.iload_n 2, 1) := by decide +kernel
theorem dX1_append_32 : decode cX1_append 32 = .ok (.iadd, 1) := by decide +kernel
theorem dX1_append_33 : decode cX1_append 33 = .ok (.iastore, 1) := by decide +kernel
theorem dX1_append_34 : decode cX1_append 34 = .ok (.aload_n 0, 1) := by decide +kernel
theorem dX1_append_35 : decode cX1_append 35 = .ok (.iload 4, 2) := by decide +kernel
theorem dX1_append_37 : decode cX1_append 37 = .ok (.iload_n 1, 1) := by decide +kernel
theorem dX1_append_38 : decode cX1_append 38 = .ok (.iload_n 3, 1) := by decide +kernel
theorem dX1_append_39 : decode cX1_append 39 = .ok (.invokevirtual 25, 3) := by decide +kernel
theorem dX1_append_42 : decode cX1_append 42 = .ok (.iload 4, 2) := by decide +kernel
theorem dX1_append_44 : decode cX1_append 44 = .ok (.ireturn, 1) := by decide +kernel
theorem dX1_change_0 : decode cX1_change 0 = .ok (.aload_n 0, 1) := by decide +kernel
theorem dX1_change_1 : decode cX1_change 1 = .ok (.getfield 9, 3) := by decide +kernel
theorem dX1_change_4 : decode cX1_change 4 = .ok (.iload_n 1, 1) := by decide +kernel
theorem dX1_change_5 : decode cX1_change 5 = .ok (.iload_n 2, 1) := by decide +kernel
theorem dX1_change_6 : decode cX1_change 6 = .ok (.iastore, 1) := by decide +kernel
theorem dX1_change_7 : decode cX1_change 7 = .ok (.aload_n 0, 1) := by decide +kernel
theorem dX1_change_8 : decode cX1_change 8 = .ok (.getfield 15, 3) := by decide +kernel
theorem dX1_change_11 : decode cX1_change 11 = .ok (.iload_n 1, 1) := by decide +kernel
theorem dX1_change_12 : decode cX1_change 12 = .ok (.iload_n 2, 1) := by decide +kernel
theorem dX1_change_13 : decode cX1_change 13 = .ok (.ifCond .ne 7, 3) := by decide +kernel
theorem dX1_change_16 : decode cX1_change 16 = .ok (.iload_n 3, 1) := by decide +kernel
theorem dX1_change_17 : decode cX1_change 17 = .ok (.goto 4, 3) := by decide +kernel
theorem dX1_change_20 : decode cX1_change 20 = .ok (.iconst (-1), 1) := by decide +kernel
theorem dX1_change_21 : decode cX1_change 21 = .ok (.iastore, 1) := by decide +kernel
theorem dX1_change_22 : decode cX1_change 22 = .ok (.return_, 1) := by decide +kernel
theorem dX1_drives_0 : decode cX1_drives 0 = .ok (.aload_n 0, 1) := by decide +kernel
theorem dX1_drives_1 : decode cX1_drives 1 = .ok (.getfield 9, 3) := by decide +kernel
theorem dX1_drives_4 : decode cX1_drives 4 = .ok (.iload_n 1, 1) := by decide +kernel
theorem dX1_drives_5 : decode cX1_drives 5 = .ok (.iaload, 1) := by decide +kernel
theorem dX1_drives_6 : decode cX1_drives 6 = .ok (.ifCond .ne 17, 3) := by decide +kernel
theorem dX1_drives_9 : decode cX1_drives 9 = .ok (.aload_n 0, 1) := by decide +kernel
theorem dX1_drives_10 : decode cX1_drives 10 = .ok (.getfield 15, 3) := by decide +kernel
theorem dX1_drives_13 : decode cX1_drives 13 = .ok (.iload_n 1, 1) := by decide +kernel
theorem dX1_drives_14 : decode cX1_drives 14 = .ok (.iaload, 1) := by decide +kernel
theorem dX1_drives_15 : decode cX1_drives 15 = .ok (.iload_n 2, 1) := by decide +kernel
theorem dX1_drives_16 : decode cX1_drives 16 = .ok (.if_icmp .ne 7, 3) := by decide +kernel
theorem dX1_drives_19 : decode cX1_drives 19 = .ok (.iconst 1, 1) := by decide +kernel
theorem dX1_drives_20 : decode cX1_drives 20 = .ok (.goto 4, 3) := by decide +kernel
theorem dX1_drives_23 : decode cX1_drives 23 = .ok (.iconst 0, 1) := by decide +kernel
theorem dX1_drives_24 : decode cX1_drives 24 = .ok (.ireturn, 1) := by decide +kernel
theorem dX1_kindRead_0 : decode cX1_kindRead 0 = .ok (.aload_n 0, 1) := by decide +kernel
theorem dX1_kindRead_1 : decode cX1_kindRead 1 = .ok (.getfield 9, 3) := by decide +kernel
theorem dX1_kindRead_4 : decode cX1_kindRead 4 = .ok (.iload_n 1, 1) := by decide +kernel
theorem dX1_kindRead_5 : decode cX1_kindRead 5 = .ok (.iaload, 1) := by decide +kernel
theorem dX1_kindRead_6 : decode cX1_kindRead 6 = .ok (.lookupswitch 64 #[(3, 36), (4, 26)], 26) := by decide +kernel
theorem dX1_kindRead_32 : decode cX1_kindRead 32 = .ok (.iload_n 2, 1) := by decide +kernel
theorem dX1_kindRead_33 : decode cX1_kindRead 33 = .ok (.ifCond .eq 7, 3) := by decide +kernel
theorem dX1_kindRead_36 : decode cX1_kindRead 36 = .ok (.iconst 0, 1) := by decide +kernel
theorem dX1_kindRead_37 : decode cX1_kindRead 37 = .ok (.goto 4, 3) := by decide +kernel
theorem dX1_kindRead_40 : decode cX1_kindRead 40 = .ok (.iconst 2, 1) := by decide +kernel
theorem dX1_kindRead_41 : decode cX1_kindRead 41 = .ok (.ireturn, 1) := by decide +kernel
theorem dX1_kindRead_42 : decode cX1_kindRead 42 = .ok (.aload_n 0, 1) := by decide +kernel
theorem dX1_kindRead_43 : decode cX1_kindRead 43 = .ok (.iload_n 1, 1) := by decide +kernel
theorem dX1_kindRead_44 : decode cX1_kindRead 44 = .ok (.iconst 1, 1) := by decide +kernel
theorem dX1_kindRead_45 : decode cX1_kindRead 45 = .ok (.isub, 1) := by decide +kernel
theorem dX1_kindRead_46 : decode cX1_kindRead 46 = .ok (.iload_n 2, 1) := by decide +kernel
theorem dX1_kindRead_47 : decode cX1_kindRead 47 = .ok (.invokevirtual 29, 3) := by decide +kernel
theorem dX1_kindRead_50 : decode cX1_kindRead 50 = .ok (.ifCond .eq 18, 3) := by decide +kernel
theorem dX1_kindRead_53 : decode cX1_kindRead 53 = .ok (.aload_n 0, 1) := by decide +kernel
theorem dX1_kindRead_54 : decode cX1_kindRead 54 = .ok (.iload_n 1, 1) := by decide +kernel
theorem dX1_kindRead_55 : decode cX1_kindRead 55 = .ok (.iconst 1, 1) := by decide +kernel
theorem dX1_kindRead_56 : decode cX1_kindRead 56 = .ok (.iadd, 1) := by decide +kernel
theorem dX1_kindRead_57 : decode cX1_kindRead 57 = .ok (.iload_n 2, 1) := by decide +kernel
theorem dX1_kindRead_58 : decode cX1_kindRead 58 = .ok (.invokevirtual 29, 3) := by decide +kernel
theorem dX1_kindRead_61 : decode cX1_kindRead 61 = .ok (.ifCond .eq 7, 3) := by decide +kernel
theorem dX1_kindRead_64 : decode cX1_kindRead 64 = .ok (.iconst 2, 1) := by decide +kernel
theorem dX1_kindRead_65 : decode cX1_kindRead 65 = .ok (.goto 4, 3) := by decide +kernel
theorem dX1_kindRead_68 : decode cX1_kindRead 68 = .ok (.iconst 1, 1) := by decide +kernel
theorem dX1_kindRead_69 : decode cX1_kindRead 69 = .ok (.ireturn, 1) := by decide +kernel
theorem dX1_kindRead_70 : decode cX1_kindRead 70 = .ok (.aload_n 0, 1) := by decide +kernel
theorem dX1_kindRead_71 : decode cX1_kindRead 71 = .ok (.getfield 9, 3) := by decide +kernel
theorem dX1_kindRead_74 : decode cX1_kindRead 74 = .ok (.iload_n 1, 1) := by decide +kernel
theorem dX1_kindRead_75 : decode cX1_kindRead 75 = .ok (.iaload, 1) := by decide +kernel
theorem dX1_kindRead_76 : decode cX1_kindRead 76 = .ok (.ireturn, 1) := by decide +kernel
theorem dX1_isRest_0 : decode cX1_isRest 0 = .ok (.aload_n 0, 1) := by decide +kernel
theorem dX1_isRest_1 : decode cX1_isRest 1 = .ok (.iload_n 1, 1) := by decide +kernel
theorem dX1_isRest_2 : decode cX1_isRest 2 = .ok (.invokevirtual 33, 3) := by decide +kernel
theorem dX1_isRest_5 : decode cX1_isRest 5 = .ok (.ifCond .eq 31, 3) := by decide +kernel
theorem dX1_isRest_8 : decode cX1_isRest 8 = .ok (.aload_n 0, 1) := by decide +kernel
theorem dX1_isRest_9 : decode cX1_isRest 9 = .ok (.getfield 9, 3) := by decide +kernel
theorem dX1_isRest_12 : decode cX1_isRest 12 = .ok (.iload_n 1, 1) := by decide +kernel
theorem dX1_isRest_13 : decode cX1_isRest 13 = .ok (.iaload, 1) := by decide +kernel
theorem dX1_isRest_14 : decode cX1_isRest 14 = .ok (.iconst 2, 1) := by decide +kernel
theorem dX1_isRest_15 : decode cX1_isRest 15 = .ok (.if_icmp .eq 17, 3) := by decide +kernel
theorem dX1_isRest_18 : decode cX1_isRest 18 = .ok (.aload_n 0, 1) := by decide +kernel
theorem dX1_isRest_19 : decode cX1_isRest 19 = .ok (.getfield 9, 3) := by decide +kernel
theorem dX1_isRest_22 : decode cX1_isRest 22 = .ok (.iload_n 1, 1) := by decide +kernel
theorem dX1_isRest_23 : decode cX1_isRest 23 = .ok (.iaload, 1) := by decide +kernel
theorem dX1_isRest_24 : decode cX1_isRest 24 = .ok (.iconst 4, 1) := by decide +kernel
theorem dX1_isRest_25 : decode cX1_isRest 25 = .ok (.if_icmp .ne 11, 3) := by decide +kernel
theorem dX1_isRest_28 : decode cX1_isRest 28 = .ok (.iload_n 2, 1) := by decide +kernel
theorem dX1_isRest_29 : decode cX1_isRest 29 = .ok (.ifCond .ne 7, 3) := by decide +kernel
theorem dX1_isRest_32 : decode cX1_isRest 32 = .ok (.iconst 1, 1) := by decide +kernel
theorem dX1_isRest_33 : decode cX1_isRest 33 = .ok (.goto 4, 3) := by decide +kernel
theorem dX1_isRest_36 : decode cX1_isRest 36 = .ok (.iconst 0, 1) := by decide +kernel
theorem dX1_isRest_37 : decode cX1_isRest 37 = .ok (.ireturn, 1) := by decide +kernel
theorem dX2_init_0 : decode cX2_init 0 = .ok (.aload_n 0, 1) := by decide +kernel
theorem dX2_init_1 : decode cX2_init 1 = .ok (.invokespecial 5, 3) := by decide +kernel
theorem dX2_init_4 : decode cX2_init 4 = .ok (.aload_n 0, 1) := by decide +kernel
theorem dX2_init_5 : decode cX2_init 5 = .ok (.iconst 4, 1) := by decide +kernel
theorem dX2_init_6 : decode cX2_init 6 = .ok (.newarray .int, 2) := by decide +kernel
theorem dX2_init_8 : decode cX2_init 8 = .ok (.putfield 11, 3) := by decide +kernel
theorem dX2_init_11 : decode cX2_init 11 = .ok (.aload_n 0, 1) := by decide +kernel
theorem dX2_init_12 : decode cX2_init 12 = .ok (.iconst 0, 1) := by decide +kernel
theorem dX2_init_13 : decode cX2_init 13 = .ok (.putfield 17, 3) := by decide +kernel
theorem dX2_init_16 : decode cX2_init 16 = .ok (.aload_n 0, 1) := by decide +kernel
theorem dX2_init_17 : decode cX2_init 17 = .ok (.iconst 0, 1) := by decide +kernel
theorem dX2_init_18 : decode cX2_init 18 = .ok (.putfield 21, 3) := by decide +kernel
theorem dX2_init_21 : decode cX2_init 21 = .ok (.aload_n 0, 1) := by decide +kernel
theorem dX2_init_22 : decode cX2_init 22 = .ok (.iconst 0, 1) := by decide +kernel
theorem dX2_init_23 : decode cX2_init 23 = .ok (.putfield 24, 3) := by decide +kernel
theorem dX2_init_26 : decode cX2_init 26 = .ok (.aload_n 0, 1) := by decide +kernel
theorem dX2_init_27 : decode cX2_init 27 = .ok (.iconst 0, 1) := by decide +kernel
theorem dX2_init_28 : decode cX2_init 28 = .ok (.putfield 27, 3) := by decide +kernel
theorem dX2_init_31 : decode cX2_init 31 = .ok (.aload_n 0, 1) := by decide +kernel
theorem dX2_init_32 : decode cX2_init 32 = .ok (.iconst 0, 1) := by decide +kernel
theorem dX2_init_33 : decode cX2_init 33 = .ok (.putfield 30, 3) := by decide +kernel
theorem dX2_init_36 : decode cX2_init 36 = .ok (.return_, 1) := by decide +kernel
theorem dX2_compare_0 : decode cX2_compare 0 = .ok (.aload_n 0, 1) := by decide +kernel
theorem dX2_compare_1 : decode cX2_compare 1 = .ok (.invokevirtual 33, 3) := by decide +kernel
theorem dX2_compare_4 : decode cX2_compare 4 = .ok (.iconst 0, 1) := by decide +kernel
theorem dX2_compare_5 : decode cX2_compare 5 = .ok (.istore 4, 2) := by decide +kernel
theorem dX2_compare_7 : decode cX2_compare 7 = .ok (.iconst 0, 1) := by decide +kernel
theorem dX2_compare_8 : decode cX2_compare 8 = .ok (.istore 5, 2) := by decide +kernel
theorem dX2_compare_10 : decode cX2_compare 10 = .ok (.iload 5, 2) := by decide +kernel
theorem dX2_compare_12 : decode cX2_compare 12 = .ok (.sipush 281, 3) := by decide +kernel
theorem dX2_compare_15 : decode cX2_compare 15 = .ok (.if_icmp .ge 98, 3) := by decide +kernel
theorem dX2_compare_18 : decode cX2_compare 18 = .ok (.iload 4, 2) := by decide +kernel
theorem dX2_compare_20 : decode cX2_compare 20 = .ok (.sipush 20160, 3) := by decide +kernel
theorem dX2_compare_23 : decode cX2_compare 23 = .ok (.if_icmp .ge 90, 3) := by decide +kernel
theorem dX2_compare_26 : decode cX2_compare 26 = .ok (.aload_n 0, 1) := by decide +kernel
theorem dX2_compare_27 : decode cX2_compare 27 = .ok (.sipush 20160, 3) := by decide +kernel
theorem dX2_compare_30 : decode cX2_compare 30 = .ok (.putfield 21, 3) := by decide +kernel
theorem dX2_compare_33 : decode cX2_compare 33 = .ok (.iconst 0, 1) := by decide +kernel
theorem dX2_compare_34 : decode cX2_compare 34 = .ok (.istore 6, 2) := by decide +kernel
theorem dX2_compare_36 : decode cX2_compare 36 = .ok (.iconst 0, 1) := by decide +kernel
theorem dX2_compare_37 : decode cX2_compare 37 = .ok (.istore 7, 2) := by decide +kernel
theorem dX2_compare_39 : decode cX2_compare 39 = .ok (.iload 7, 2) := by decide +kernel
theorem dX2_compare_41 : decode cX2_compare 41 = .ok (.iconst 4, 1) := by decide +kernel
theorem dX2_compare_42 : decode cX2_compare 42 = .ok (.if_icmp .ge 35, 3) := by decide +kernel
theorem dX2_compare_45 : decode cX2_compare 45 = .ok (.iload 6, 2) := by decide +kernel
theorem dX2_compare_47 : decode cX2_compare 47 = .ok (.aload_n 0, 1) := by decide +kernel
theorem dX2_compare_48 : decode cX2_compare 48 = .ok (.aload_n 1, 1) := by decide +kernel
theorem dX2_compare_49 : decode cX2_compare 49 = .ok (.iload 7, 2) := by decide +kernel
theorem dX2_compare_51 : decode cX2_compare 51 = .ok (.aaload, 1) := by decide +kernel
theorem dX2_compare_52 : decode cX2_compare 52 = .ok (.iload 7, 2) := by decide +kernel
theorem dX2_compare_54 : decode cX2_compare 54 = .ok (.iload 4, 2) := by decide +kernel
theorem dX2_compare_56 : decode cX2_compare 56 = .ok (.iload_n 3, 1) := by decide +kernel
theorem dX2_compare_57 : decode cX2_compare 57 = .ok (.invokevirtual 36, 3) := by decide +kernel
theorem dX2_compare_60 : decode cX2_compare 60 = .ok (.ifCond .eq 7, 3) := by decide +kernel
theorem dX2_compare_63 : decode cX2_compare 63 = .ok (.iconst 1, 1) := by decide +kernel
theorem dX2_compare_64 : decode cX2_compare 64 = .ok (.goto 4, 3) := by decide +kernel
theorem dX2_compare_67 : decode cX2_compare 67 = .ok (.iconst 0, 1) := by decide +kernel
theorem dX2_compare_68 : decode cX2_compare 68 = .ok (.iadd, 1) := by decide +kernel
theorem dX2_compare_69 : decode cX2_compare 69 = .ok (.istore 6, 2) := by decide +kernel
theorem dX2_compare_71 : decode cX2_compare 71 = .ok (.iinc 7 1, 3) := by decide +kernel
theorem dX2_compare_74 : decode cX2_compare 74 = .ok (.goto (-35), 3) := by decide +kernel
theorem dX2_compare_77 : decode cX2_compare 77 = .ok (.aload_n 0, 1) := by decide +kernel
theorem dX2_compare_78 : decode cX2_compare 78 = .ok (.aload_n 2, 1) := by decide +kernel
theorem dX2_compare_79 : decode cX2_compare 79 = .ok (.iload 4, 2) := by decide +kernel
theorem dX2_compare_81 : decode cX2_compare 81 = .ok (.invokevirtual 40, 3) := by decide +kernel
theorem dX2_compare_84 : decode cX2_compare 84 = .ok (.istore 7, 2) := by decide +kernel
theorem dX2_compare_86 : decode cX2_compare 86 = .ok (.aload_n 0, 1) := by decide +kernel
theorem dX2_compare_87 : decode cX2_compare 87 = .ok (.aload_n 0, 1) := by decide +kernel
theorem dX2_compare_88 : decode cX2_compare 88 = .ok (.getfield 21, 3) := by decide +kernel
theorem dX2_compare_91 : decode cX2_compare 91 = .ok (.iload 4, 2) := by decide +kernel
theorem dX2_compare_93 : decode cX2_compare 93 = .ok (.isub, 1) := by decide +kernel
theorem dX2_compare_94 : decode cX2_compare 94 = .ok (.iload 6, 2) := by decide +kernel
theorem dX2_compare_96 : decode cX2_compare 96 = .ok (.iload 7, 2) := by decide +kernel
theorem dX2_compare_98 : decode cX2_compare 98 = .ok (.invokevirtual 44, 3) := by decide +kernel
theorem dX2_compare_101 : decode cX2_compare 101 = .ok (.aload_n 0, 1) := by decide +kernel
theorem dX2_compare_102 : decode cX2_compare 102 = .ok (.getfield 21, 3) := by decide +kernel
theorem dX2_compare_105 : decode cX2_compare 105 = .ok (.istore 4, 2) := by decide +kernel
theorem dX2_compare_107 : decode cX2_compare 107 = .ok (.iinc 5 1, 3) := by decide +kernel
theorem dX2_compare_110 : decode cX2_compare 110 = .ok (.goto (-100), 3) := by decide +kernel
theorem dX2_compare_113 : decode cX2_compare 113 = .ok (.return_, 1) := by decide +kernel
theorem dX2_startAgain_0 : decode cX2_startAgain 0 = .ok (.iconst 0, 1) := by decide +kernel
theorem dX2_startAgain_1 : decode cX2_startAgain 1 = .ok (.istore_n 1, 1) := by decide +kernel
theorem dX2_startAgain_2 : decode cX2_startAgain 2 = .ok (.iload_n 1, 1) := by decide +kernel
theorem dX2_startAgain_3 : decode cX2_startAgain 3 = .ok (.iconst 4, 1) := by decide +kernel
theorem dX2_startAgain_4 : decode cX2_startAgain 4 = .ok (.if_icmp .ge 16, 3) := by decide +kernel
theorem dX2_startAgain_7 : decode cX2_startAgain 7 = .ok (.aload_n 0, 1) := by decide +kernel
theorem dX2_startAgain_8 : decode cX2_startAgain 8 = .ok (.getfield 11, 3) := by decide +kernel
theorem dX2_startAgain_11 : decode cX2_startAgain 11 = .ok (.iload_n 1, 1) := by decide +kernel
theorem dX2_startAgain_12 : decode cX2_startAgain 12 = .ok (.iconst 0, 1) := by decide +kernel
theorem dX2_startAgain_13 : decode cX2_startAgain 13 = .ok (.iastore, 1) := by decide +kernel
theorem dX2_startAgain_14 : decode cX2_startAgain 14 = .ok (.iinc 1 1, 3) := by decide +kernel
theorem dX2_startAgain_17 : decode cX2_startAgain 17 = .ok (.goto (-15), 3) := by decide +kernel
theorem dX2_startAgain_20 : decode cX2_startAgain 20 = .ok (.aload_n 0, 1) := by decide +kernel
theorem dX2_startAgain_21 : decode cX2_startAgain 21 = .ok (.iconst 0, 1) := by decide +kernel
theorem dX2_startAgain_22 : decode cX2_startAgain 22 = .ok (.putfield 17, 3) := by decide +kernel
theorem dX2_startAgain_25 : decode cX2_startAgain 25 = .ok (.aload_n 0, 1) := by decide +kernel
theorem dX2_startAgain_26 : decode cX2_startAgain 26 = .ok (.iconst 0, 1) := by decide +kernel
theorem dX2_startAgain_27 : decode cX2_startAgain 27 = .ok (.putfield 24, 3) := by decide +kernel
theorem dX2_startAgain_30 : decode cX2_startAgain 30 = .ok (.aload_n 0, 1) := by decide +kernel
theorem dX2_startAgain_31 : decode cX2_startAgain 31 = .ok (.iconst 0, 1) := by decide +kernel
theorem dX2_startAgain_32 : decode cX2_startAgain 32 = .ok (.putfield 27, 3) := by decide +kernel
theorem dX2_startAgain_35 : decode cX2_startAgain 35 = .ok (.aload_n 0, 1) := by decide +kernel
theorem dX2_startAgain_36 : decode cX2_startAgain 36 = .ok (.iconst 0, 1) := by decide +kernel
theorem dX2_startAgain_37 : decode cX2_startAgain 37 = .ok (.putfield 30, 3) := by decide +kernel
theorem dX2_startAgain_40 : decode cX2_startAgain 40 = .ok (.return_, 1) := by decide +kernel
theorem dX2_isDriven_0 : decode cX2_isDriven 0 = .ok (.aload_n 0, 1) := by decide +kernel
theorem dX2_isDriven_1 : decode cX2_isDriven 1 = .ok (.getfield 11, 3) := by decide +kernel
theorem dX2_isDriven_4 : decode cX2_isDriven 4 = .ok (.iload_n 2, 1) := by decide +kernel
theorem dX2_isDriven_5 : decode cX2_isDriven 5 = .ok (.iaload, 1) := by decide +kernel
theorem dX2_isDriven_6 : decode cX2_isDriven 6 = .ok (.aload_n 1, 1) := by decide +kernel
theorem dX2_isDriven_7 : decode cX2_isDriven 7 = .ok (.getfield 48, 3) := by decide +kernel
theorem dX2_isDriven_10 : decode cX2_isDriven 10 = .ok (.if_icmp .ge 30, 3) := by decide +kernel
theorem dX2_isDriven_13 : decode cX2_isDriven 13 = .ok (.aload_n 1, 1) := by decide +kernel
theorem dX2_isDriven_14 : decode cX2_isDriven 14 = .ok (.getfield 53, 3) := by decide +kernel
theorem dX2_isDriven_17 : decode cX2_isDriven 17 = .ok (.aload_n 0, 1) := by decide +kernel
theorem dX2_isDriven_18 : decode cX2_isDriven 18 = .ok (.getfield 11, 3) := by decide +kernel
theorem dX2_isDriven_21 : decode cX2_isDriven 21 = .ok (.iload_n 2, 1) := by decide +kernel
theorem dX2_isDriven_22 : decode cX2_isDriven 22 = .ok (.iaload, 1) := by decide +kernel
theorem dX2_isDriven_23 : decode cX2_isDriven 23 = .ok (.iconst 1, 1) := by decide +kernel
theorem dX2_isDriven_24 : decode cX2_isDriven 24 = .ok (.iadd, 1) := by decide +kernel
theorem dX2_isDriven_25 : decode cX2_isDriven 25 = .ok (.iaload, 1) := by decide +kernel
theorem dX2_isDriven_26 : decode cX2_isDriven 26 = .ok (.iload_n 3, 1) := by decide +kernel
theorem dX2_isDriven_27 : decode cX2_isDriven 27 = .ok (.if_icmp .gt 13, 3) := by decide +kernel
theorem dX2_isDriven_30 : decode cX2_isDriven 30 = .ok (.aload_n 0, 1) := by decide +kernel
theorem dX2_isDriven_31 : decode cX2_isDriven 31 = .ok (.getfield 11, 3) := by decide +kernel
theorem dX2_isDriven_34 : decode cX2_isDriven 34 = .ok (.iload_n 2, 1) := by decide +kernel
theorem dX2_isDriven_35 : decode cX2_isDriven 35 = .ok (.dup2, 1) := by decide +kernel
theorem dX2_isDriven_36 : decode cX2_isDriven 36 = .ok (.iaload, 1) := by decide +kernel
theorem dX2_isDriven_37 : decode cX2_isDriven 37 = .ok (.iconst 1, 1) := by decide +kernel
theorem dX2_isDriven_38 : decode cX2_isDriven 38 = .ok (.iadd, 1) := by decide +kernel
theorem dX2_isDriven_39 : decode cX2_isDriven 39 = .ok (.iastore, 1) := by decide +kernel
theorem dX2_isDriven_40 : decode cX2_isDriven 40 = .ok (.aload_n 0, 1) := by decide +kernel
theorem dX2_isDriven_41 : decode cX2_isDriven 41 = .ok (.getfield 11, 3) := by decide +kernel
theorem dX2_isDriven_44 : decode cX2_isDriven 44 = .ok (.iload_n 2, 1) := by decide +kernel
theorem dX2_isDriven_45 : decode cX2_isDriven 45 = .ok (.iaload, 1) := by decide +kernel
theorem dX2_isDriven_46 : decode cX2_isDriven 46 = .ok (.istore 5, 2) := by decide +kernel
theorem dX2_isDriven_48 : decode cX2_isDriven 48 = .ok (.iload 5, 2) := by decide +kernel
theorem dX2_isDriven_50 : decode cX2_isDriven 50 = .ok (.aload_n 1, 1) := by decide +kernel
theorem dX2_isDriven_51 : decode cX2_isDriven 51 = .ok (.getfield 48, 3) := by decide +kernel
theorem dX2_isDriven_54 : decode cX2_isDriven 54 = .ok (.if_icmp .lt 5, 3) := by decide +kernel
theorem dX2_isDriven_57 : decode cX2_isDriven 57 = .ok (.iconst 0, 1) := by decide +kernel
theorem dX2_isDriven_58 : decode cX2_isDriven 58 = .ok (.ireturn, 1) := by decide +kernel
theorem dX2_isDriven_59 : decode cX2_isDriven 59 = .ok (.aload_n 0, 1) := by decide +kernel
theorem dX2_isDriven_60 : decode cX2_isDriven 60 = .ok (.aload_n 0, 1) := by decide +kernel
theorem dX2_isDriven_61 : decode cX2_isDriven 61 = .ok (.getfield 21, 3) := by decide +kernel
theorem dX2_isDriven_64 : decode cX2_isDriven 64 = .ok (.aload_n 1, 1) := by decide +kernel
theorem dX2_isDriven_65 : decode cX2_isDriven 65 = .ok (.getfield 53, 3) := by decide +kernel
theorem dX2_isDriven_68 : decode cX2_isDriven 68 = .ok (.iload 5, 2) := by decide +kernel
theorem dX2_isDriven_70 : decode cX2_isDriven 70 = .ok (.iconst 1, 1) := by decide +kernel
theorem dX2_isDriven_71 : decode cX2_isDriven 71 = .ok (.iadd, 1) := by decide +kernel
theorem dX2_isDriven_72 : decode cX2_isDriven 72 = .ok (.iaload, 1) := by decide +kernel
theorem dX2_isDriven_73 : decode cX2_isDriven 73 = .ok (.invokestatic 56, 3) := by decide +kernel
theorem dX2_isDriven_76 : decode cX2_isDriven 76 = .ok (.putfield 21, 3) := by decide +kernel
theorem dX2_isDriven_79 : decode cX2_isDriven 79 = .ok (.aload_n 1, 1) := by decide +kernel
theorem dX2_isDriven_80 : decode cX2_isDriven 80 = .ok (.iload 5, 2) := by decide +kernel
theorem dX2_isDriven_82 : decode cX2_isDriven 82 = .ok (.iload 4, 2) := by decide +kernel
theorem dX2_isDriven_84 : decode cX2_isDriven 84 = .ok (.invokevirtual 62, 3) := by decide +kernel
theorem dX2_isDriven_87 : decode cX2_isDriven 87 = .ok (.ireturn, 1) := by decide +kernel
theorem dX2_isOnTrip_0 : decode cX2_isOnTrip 0 = .ok (.aload_n 0, 1) := by decide +kernel
theorem dX2_isOnTrip_1 : decode cX2_isOnTrip 1 = .ok (.getfield 17, 3) := by decide +kernel
theorem dX2_isOnTrip_4 : decode cX2_isOnTrip 4 = .ok (.aload_n 1, 1) := by decide +kernel
theorem dX2_isOnTrip_5 : decode cX2_isOnTrip 5 = .ok (.getfield 66, 3) := by decide +kernel
theorem dX2_isOnTrip_8 : decode cX2_isOnTrip 8 = .ok (.if_icmp .ge 26, 3) := by decide +kernel
theorem dX2_isOnTrip_11 : decode cX2_isOnTrip 11 = .ok (.aload_n 1, 1) := by decide +kernel
theorem dX2_isOnTrip_12 : decode cX2_isOnTrip 12 = .ok (.getfield 69, 3) := by decide +kernel
theorem dX2_isOnTrip_15 : decode cX2_isOnTrip 15 = .ok (.aload_n 0, 1) := by decide +kernel
theorem dX2_isOnTrip_16 : decode cX2_isOnTrip 16 = .ok (.getfield 17, 3) := by decide +kernel
theorem dX2_isOnTrip_19 : decode cX2_isOnTrip 19 = .ok (.iaload, 1) := by decide +kernel
theorem dX2_isOnTrip_20 : decode cX2_isOnTrip 20 = .ok (.iload_n 2, 1) := by decide +kernel
theorem dX2_isOnTrip_21 : decode cX2_isOnTrip 21 = .ok (.if_icmp .gt 13, 3) := by decide +kernel
theorem dX2_isOnTrip_24 : decode cX2_isOnTrip 24 = .ok (.aload_n 0, 1) := by decide +kernel
theorem dX2_isOnTrip_25 : decode cX2_isOnTrip 25 = .ok (.dup, 1) := by decide +kernel
theorem dX2_isOnTrip_26 : decode cX2_isOnTrip 26 = .ok (.getfield 17, 3) := by decide +kernel
theorem dX2_isOnTrip_29 : decode cX2_isOnTrip 29 = .ok (.iconst 1, 1) := by decide +kernel
theorem dX2_isOnTrip_30 : decode cX2_isOnTrip 30 = .ok (.iadd, 1) := by decide +kernel
theorem dX2_isOnTrip_31 : decode cX2_isOnTrip 31 = .ok (.putfield 17, 3) := by decide +kernel
theorem dX2_isOnTrip_34 : decode cX2_isOnTrip 34 = .ok (.aload_n 0, 1) := by decide +kernel
theorem dX2_isOnTrip_35 : decode cX2_isOnTrip 35 = .ok (.getfield 17, 3) := by decide +kernel
theorem dX2_isOnTrip_38 : decode cX2_isOnTrip 38 = .ok (.aload_n 1, 1) := by decide +kernel
theorem dX2_isOnTrip_39 : decode cX2_isOnTrip 39 = .ok (.getfield 66, 3) := by decide +kernel
theorem dX2_isOnTrip_42 : decode cX2_isOnTrip 42 = .ok (.if_icmp .lt 5, 3) := by decide +kernel
theorem dX2_isOnTrip_45 : decode cX2_isOnTrip 45 = .ok (.iconst 0, 1) := by decide +kernel
theorem dX2_isOnTrip_46 : decode cX2_isOnTrip 46 = .ok (.ireturn, 1) := by decide +kernel
theorem dX2_isOnTrip_47 : decode cX2_isOnTrip 47 = .ok (.aload_n 1, 1) := by decide +kernel
theorem dX2_isOnTrip_48 : decode cX2_isOnTrip 48 = .ok (.getfield 72, 3) := by decide +kernel
theorem dX2_isOnTrip_51 : decode cX2_isOnTrip 51 = .ok (.aload_n 0, 1) := by decide +kernel
theorem dX2_isOnTrip_52 : decode cX2_isOnTrip 52 = .ok (.getfield 17, 3) := by decide +kernel
theorem dX2_isOnTrip_55 : decode cX2_isOnTrip 55 = .ok (.iaload, 1) := by decide +kernel
theorem dX2_isOnTrip_56 : decode cX2_isOnTrip 56 = .ok (.iload_n 2, 1) := by decide +kernel
theorem dX2_isOnTrip_57 : decode cX2_isOnTrip 57 = .ok (.if_icmp .gt 7, 3) := by decide +kernel
theorem dX2_isOnTrip_60 : decode cX2_isOnTrip 60 = .ok (.iconst 1, 1) := by decide +kernel
theorem dX2_isOnTrip_61 : decode cX2_isOnTrip 61 = .ok (.goto 4, 3) := by decide +kernel
theorem dX2_isOnTrip_64 : decode cX2_isOnTrip 64 = .ok (.iconst 0, 1) := by decide +kernel
theorem dX2_isOnTrip_65 : decode cX2_isOnTrip 65 = .ok (.istore_n 3, 1) := by decide +kernel
theorem dX2_isOnTrip_66 : decode cX2_isOnTrip 66 = .ok (.aload_n 0, 1) := by decide +kernel
theorem dX2_isOnTrip_67 : decode cX2_isOnTrip 67 = .ok (.aload_n 0, 1) := by decide +kernel
theorem dX2_isOnTrip_68 : decode cX2_isOnTrip 68 = .ok (.getfield 21, 3) := by decide +kernel
theorem dX2_isOnTrip_71 : decode cX2_isOnTrip 71 = .ok (.iload_n 3, 1) := by decide +kernel
theorem dX2_isOnTrip_72 : decode cX2_isOnTrip 72 = .ok (.ifCond .eq 15, 3) := by decide +kernel
theorem dX2_isOnTrip_75 : decode cX2_isOnTrip 75 = .ok (.aload_n 1, 1) := by decide +kernel
theorem dX2_isOnTrip_76 : decode cX2_isOnTrip 76 = .ok (.getfield 69, 3) := by decide +kernel
theorem dX2_isOnTrip_79 : decode cX2_isOnTrip 79 = .ok (.aload_n 0, 1) := by decide +kernel
theorem dX2_isOnTrip_80 : decode cX2_isOnTrip 80 = .ok (.getfield 17, 3) := by decide +kernel
theorem dX2_isOnTrip_83 : decode cX2_isOnTrip 83 = .ok (.iaload, 1) := by decide +kernel
theorem dX2_isOnTrip_84 : decode cX2_isOnTrip 84 = .ok (.goto 12, 3) := by decide +kernel
theorem dX2_isOnTrip_87 : decode cX2_isOnTrip 87 = .ok (.aload_n 1, 1) := by decide +kernel
theorem dX2_isOnTrip_88 : decode cX2_isOnTrip 88 = .ok (.getfield 72, 3) := by decide +kernel
theorem dX2_isOnTrip_91 : decode cX2_isOnTrip 91 = .ok (.aload_n 0, 1) := by decide +kernel
theorem dX2_isOnTrip_92 : decode cX2_isOnTrip 92 = .ok (.getfield 17, 3) := by decide +kernel
theorem dX2_isOnTrip_95 : decode cX2_isOnTrip 95 = .ok (.iaload, 1) := by decide +kernel
theorem dX2_isOnTrip_96 : decode cX2_isOnTrip 96 = .ok (.invokestatic 56, 3) := by decide +kernel
theorem dX2_isOnTrip_99 : decode cX2_isOnTrip 99 = .ok (.putfield 21, 3) := by decide +kernel
theorem dX2_isOnTrip_102 : decode cX2_isOnTrip 102 = .ok (.iload_n 3, 1) := by decide +kernel
theorem dX2_isOnTrip_103 : decode cX2_isOnTrip 103 = .ok (.ireturn, 1) := by decide +kernel
theorem dX2_addMinutes_0 : decode cX2_addMinutes 0 = .ok (.iload_n 3, 1) := by decide +kernel
theorem dX2_addMinutes_1 : decode cX2_addMinutes 1 = .ok (.ifCond .eq 17, 3) := by decide +kernel
theorem dX2_addMinutes_4 : decode cX2_addMinutes 4 = .ok (.iload_n 2, 1) := by decide +kernel
theorem dX2_addMinutes_5 : decode cX2_addMinutes 5 = .ok (.ifCond .ne 13, 3) := by decide +kernel
theorem dX2_addMinutes_8 : decode cX2_addMinutes 8 = .ok (.aload_n 0, 1) := by decide +kernel
theorem dX2_addMinutes_9 : decode cX2_addMinutes 9 = .ok (.dup, 1) := by decide +kernel
theorem dX2_addMinutes_10 : decode cX2_addMinutes 10 = .ok (.getfield 24, 3) := by decide +kernel
theorem dX2_addMinutes_13 : decode cX2_addMinutes 13 = .ok (.iload_n 1, 1) := by decide +kernel
theorem dX2_addMinutes_14 : decode cX2_addMinutes 14 = .ok (.iadd, 1) := by decide +kernel
theorem dX2_addMinutes_15 : decode cX2_addMinutes 15 = .ok (.putfield 24, 3) := by decide +kernel
theorem dX2_addMinutes_18 : decode cX2_addMinutes 18 = .ok (.iload_n 2, 1) := by decide +kernel
theorem dX2_addMinutes_19 : decode cX2_addMinutes 19 = .ok (.iconst 2, 1) := by decide +kernel
theorem dX2_addMinutes_20 : decode cX2_addMinutes 20 = .ok (.if_icmp .lt 13, 3) := by decide +kernel
theorem dX2_addMinutes_23 : decode cX2_addMinutes 23 = .ok (.aload_n 0, 1) := by decide +kernel
theorem dX2_addMinutes_24 : decode cX2_addMinutes 24 = .ok (.dup, 1) := by decide +kernel
theorem dX2_addMinutes_25 : decode cX2_addMinutes 25 = .ok (.getfield 27, 3) := by decide +kernel
theorem dX2_addMinutes_28 : decode cX2_addMinutes 28 = .ok (.iload_n 1, 1) := by decide +kernel
theorem dX2_addMinutes_29 : decode cX2_addMinutes 29 = .ok (.iadd, 1) := by decide +kernel
theorem dX2_addMinutes_30 : decode cX2_addMinutes 30 = .ok (.putfield 27, 3) := by decide +kernel
theorem dX2_addMinutes_33 : decode cX2_addMinutes 33 = .ok (.iload_n 2, 1) := by decide +kernel
theorem dX2_addMinutes_34 : decode cX2_addMinutes 34 = .ok (.iconst 1, 1) := by decide +kernel
theorem dX2_addMinutes_35 : decode cX2_addMinutes 35 = .ok (.if_icmp .lt 17, 3) := by decide +kernel
theorem dX2_addMinutes_38 : decode cX2_addMinutes 38 = .ok (.iload_n 3, 1) := by decide +kernel
theorem dX2_addMinutes_39 : decode cX2_addMinutes 39 = .ok (.ifCond .ne 13, 3) := by decide +kernel
theorem dX2_addMinutes_42 : decode cX2_addMinutes 42 = .ok (.aload_n 0, 1) := by decide +kernel
theorem dX2_addMinutes_43 : decode cX2_addMinutes 43 = .ok (.dup, 1) := by decide +kernel
theorem dX2_addMinutes_44 : decode cX2_addMinutes 44 = .ok (.getfield 30, 3) := by decide +kernel
theorem dX2_addMinutes_47 : decode cX2_addMinutes 47 = .ok (.iload_n 1, 1) := by decide +kernel
theorem dX2_addMinutes_48 : decode cX2_addMinutes 48 = .ok (.iadd, 1) := by decide +kernel
theorem dX2_addMinutes_49 : decode cX2_addMinutes 49 = .ok (.putfield 30, 3) := by decide +kernel
theorem dX2_addMinutes_52 : decode cX2_addMinutes 52 = .ok (.return_, 1) := by decide +kernel
theorem dX3_init_0 : decode cX3_init 0 = .ok (.aload_n 0, 1) := by decide +kernel
theorem dX3_init_1 : decode cX3_init 1 = .ok (.invokespecial 3, 3) := by decide +kernel
theorem dX3_init_4 : decode cX3_init 4 = .ok (.aload_n 0, 1) := by decide +kernel
theorem dX3_init_5 : decode cX3_init 5 = .ok (.bipush 61, 2) := by decide +kernel
theorem dX3_init_7 : decode cX3_init 7 = .ok (.newarray .int, 2) := by decide +kernel
theorem dX3_init_9 : decode cX3_init 9 = .ok (.putfield 11, 3) := by decide +kernel
theorem dX3_init_12 : decode cX3_init 12 = .ok (.aload_n 0, 1) := by decide +kernel
theorem dX3_init_13 : decode cX3_init 13 = .ok (.bipush 61, 2) := by decide +kernel
theorem dX3_init_15 : decode cX3_init 15 = .ok (.newarray .int, 2) := by decide +kernel
theorem dX3_init_17 : decode cX3_init 17 = .ok (.putfield 15, 3) := by decide +kernel
theorem dX3_init_20 : decode cX3_init 20 = .ok (.aload_n 0, 1) := by decide +kernel
theorem dX3_init_21 : decode cX3_init 21 = .ok (.bipush 61, 2) := by decide +kernel
theorem dX3_init_23 : decode cX3_init 23 = .ok (.newarray .int, 2) := by decide +kernel
theorem dX3_init_25 : decode cX3_init 25 = .ok (.putfield 18, 3) := by decide +kernel
theorem dX3_init_28 : decode cX3_init 28 = .ok (.aload_n 0, 1) := by decide +kernel
theorem dX3_init_29 : decode cX3_init 29 = .ok (.bipush 61, 2) := by decide +kernel
theorem dX3_init_31 : decode cX3_init 31 = .ok (.newarray .int, 2) := by decide +kernel
theorem dX3_init_33 : decode cX3_init 33 = .ok (.putfield 21, 3) := by decide +kernel
theorem dX3_init_36 : decode cX3_init 36 = .ok (.aload_n 0, 1) := by decide +kernel
theorem dX3_init_37 : decode cX3_init 37 = .ok (.bipush 61, 2) := by decide +kernel
theorem dX3_init_39 : decode cX3_init 39 = .ok (.newarray .int, 2) := by decide +kernel
theorem dX3_init_41 : decode cX3_init 41 = .ok (.putfield 24, 3) := by decide +kernel
theorem dX3_init_44 : decode cX3_init 44 = .ok (.aload_n 0, 1) := by decide +kernel
theorem dX3_init_45 : decode cX3_init 45 = .ok (.bipush 61, 2) := by decide +kernel
theorem dX3_init_47 : decode cX3_init 47 = .ok (.newarray .int, 2) := by decide +kernel
theorem dX3_init_49 : decode cX3_init 49 = .ok (.putfield 27, 3) := by decide +kernel
theorem dX3_init_52 : decode cX3_init 52 = .ok (.aload_n 0, 1) := by decide +kernel
theorem dX3_init_53 : decode cX3_init 53 = .ok (.bipush 61, 2) := by decide +kernel
theorem dX3_init_55 : decode cX3_init 55 = .ok (.newarray .int, 2) := by decide +kernel
theorem dX3_init_57 : decode cX3_init 57 = .ok (.putfield 30, 3) := by decide +kernel
theorem dX3_init_60 : decode cX3_init 60 = .ok (.aload_n 0, 1) := by decide +kernel
theorem dX3_init_61 : decode cX3_init 61 = .ok (.iconst 0, 1) := by decide +kernel
theorem dX3_init_62 : decode cX3_init 62 = .ok (.putfield 33, 3) := by decide +kernel
theorem dX3_init_65 : decode cX3_init 65 = .ok (.return_, 1) := by decide +kernel
theorem dX3_addSpan_0 : decode cX3_addSpan 0 = .ok (.aload_n 0, 1) := by decide +kernel
theorem dX3_addSpan_1 : decode cX3_addSpan 1 = .ok (.getfield 33, 3) := by decide +kernel
theorem dX3_addSpan_4 : decode cX3_addSpan 4 = .ok (.bipush 61, 2) := by decide +kernel
theorem dX3_addSpan_6 : decode cX3_addSpan 6 = .ok (.if_icmp .ge 43, 3) := by decide +kernel
theorem dX3_addSpan_9 : decode cX3_addSpan 9 = .ok (.aload_n 0, 1) := by decide +kernel
theorem dX3_addSpan_10 : decode cX3_addSpan 10 = .ok (.getfield 11, 3) := by decide +kernel
theorem dX3_addSpan_13 : decode cX3_addSpan 13 = .ok (.aload_n 0, 1) := by decide +kernel
theorem dX3_addSpan_14 : decode cX3_addSpan 14 = .ok (.getfield 33, 3) := by decide +kernel
theorem dX3_addSpan_17 : decode cX3_addSpan 17 = .ok (.iload_n 1, 1) := by decide +kernel
theorem dX3_addSpan_18 : decode cX3_addSpan 18 = .ok (.iastore, 1) := by decide +kernel
theorem dX3_addSpan_19 : decode cX3_addSpan 19 = .ok (.aload_n 0, 1) := by decide +kernel
theorem dX3_addSpan_20 : decode cX3_addSpan 20 = .ok (.getfield 15, 3) := by decide +kernel
theorem dX3_addSpan_23 : decode cX3_addSpan 23 = .ok (.aload_n 0, 1) := by decide +kernel
theorem dX3_addSpan_24 : decode cX3_addSpan 24 = .ok (.getfield 33, 3) := by decide +kernel
theorem dX3_addSpan_27 : decode cX3_addSpan 27 = .ok (.iload_n 2, 1) := by decide +kernel
theorem dX3_addSpan_28 : decode cX3_addSpan 28 = .ok (.iastore, 1) := by decide +kernel
theorem dX3_addSpan_29 : decode cX3_addSpan 29 = .ok (.aload_n 0, 1) := by decide +kernel
theorem dX3_addSpan_30 : decode cX3_addSpan 30 = .ok (.getfield 24, 3) := by decide +kernel
theorem dX3_addSpan_33 : decode cX3_addSpan 33 = .ok (.aload_n 0, 1) := by decide +kernel
theorem dX3_addSpan_34 : decode cX3_addSpan 34 = .ok (.getfield 33, 3) := by decide +kernel
theorem dX3_addSpan_37 : decode cX3_addSpan 37 = .ok (.iload_n 3, 1) := by decide +kernel
theorem dX3_addSpan_38 : decode cX3_addSpan 38 = .ok (.iastore, 1) := by decide +kernel
theorem dX3_addSpan_39 : decode cX3_addSpan 39 = .ok (.aload_n 0, 1) := by decide +kernel
theorem dX3_addSpan_40 : decode cX3_addSpan 40 = .ok (.dup, 1) := by decide +kernel
theorem dX3_addSpan_41 : decode cX3_addSpan 41 = .ok (.getfield 33, 3) := by decide +kernel
theorem dX3_addSpan_44 : decode cX3_addSpan 44 = .ok (.iconst 1, 1) := by decide +kernel
theorem dX3_addSpan_45 : decode cX3_addSpan 45 = .ok (.iadd, 1) := by decide +kernel
theorem dX3_addSpan_46 : decode cX3_addSpan 46 = .ok (.putfield 33, 3) := by decide +kernel
theorem dX3_addSpan_49 : decode cX3_addSpan 49 = .ok (.return_, 1) := by decide +kernel
theorem dX3_setLast_0 : decode cX3_setLast 0 = .ok (.aload_n 0, 1) := by decide +kernel
theorem dX3_setLast_1 : decode cX3_setLast 1 = .ok (.getfield 33, 3) := by decide +kernel
theorem dX3_setLast_4 : decode cX3_setLast 4 = .ok (.ifCond .le 52, 3) := by decide +kernel
theorem dX3_setLast_7 : decode cX3_setLast 7 = .ok (.aload_n 0, 1) := by decide +kernel
theorem dX3_setLast_8 : decode cX3_setLast 8 = .ok (.getfield 18, 3) := by decide +kernel
theorem dX3_setLast_11 : decode cX3_setLast 11 = .ok (.aload_n 0, 1) := by decide +kernel
theorem dX3_setLast_12 : decode cX3_setLast 12 = .ok (.getfield 33, 3) := by decide +kernel
theorem dX3_setLast_15 : decode cX3_setLast 15 = .ok (.iconst 1, 1) := by decide +kernel
theorem dX3_setLast_16 : decode cX3_setLast 16 = .ok (.isub, 1) := by decide +kernel
theorem dX3_setLast_17 : decode cX3_setLast 17 = .ok (.iload_n 1, 1) := by decide +kernel
theorem dX3_setLast_18 : decode cX3_setLast 18 = .ok (.iastore, 1) := by decide +kernel
theorem dX3_setLast_19 : decode cX3_setLast 19 = .ok (.aload_n 0, 1) := by decide +kernel
theorem dX3_setLast_20 : decode cX3_setLast 20 = .ok (.getfield 21, 3) := by decide +kernel
theorem dX3_setLast_23 : decode cX3_setLast 23 = .ok (.aload_n 0, 1) := by decide +kernel
theorem dX3_setLast_24 : decode cX3_setLast 24 = .ok (.getfield 33, 3) := by decide +kernel
theorem dX3_setLast_27 : decode cX3_setLast 27 = .ok (.iconst 1, 1) := by decide +kernel
theorem dX3_setLast_28 : decode cX3_setLast 28 = .ok (.isub, 1) := by decide +kernel
theorem dX3_setLast_29 : decode cX3_setLast 29 = .ok (.iload_n 2, 1) := by decide +kernel
theorem dX3_setLast_30 : decode cX3_setLast 30 = .ok (.iastore, 1) := by decide +kernel
theorem dX3_setLast_31 : decode cX3_setLast 31 = .ok (.aload_n 0, 1) := by decide +kernel
theorem dX3_setLast_32 : decode cX3_setLast 32 = .ok (.getfield 27, 3) := by decide +kernel
theorem dX3_setLast_35 : decode cX3_setLast 35 = .ok (.aload_n 0, 1) := by decide +kernel
theorem dX3_setLast_36 : decode cX3_setLast 36 = .ok (.getfield 33, 3) := by decide +kernel
theorem dX3_setLast_39 : decode cX3_setLast 39 = .ok (.iconst 1, 1) := by decide +kernel
theorem dX3_setLast_40 : decode cX3_setLast 40 = .ok (.isub, 1) := by decide +kernel
theorem dX3_setLast_41 : decode cX3_setLast 41 = .ok (.iload_n 3, 1) := by decide +kernel
theorem dX3_setLast_42 : decode cX3_setLast 42 = .ok (.iastore, 1) := by decide +kernel
theorem dX3_setLast_43 : decode cX3_setLast 43 = .ok (.aload_n 0, 1) := by decide +kernel
theorem dX3_setLast_44 : decode cX3_setLast 44 = .ok (.getfield 30, 3) := by decide +kernel
theorem dX3_setLast_47 : decode cX3_setLast 47 = .ok (.aload_n 0, 1) := by decide +kernel
theorem dX3_setLast_48 : decode cX3_setLast 48 = .ok (.getfield 33, 3) := by decide +kernel
theorem dX3_setLast_51 : decode cX3_setLast 51 = .ok (.iconst 1, 1) := by decide +kernel
theorem dX3_setLast_52 : decode cX3_setLast 52 = .ok (.isub, 1) := by decide +kernel
theorem dX3_setLast_53 : decode cX3_setLast 53 = .ok (.iload 4, 2) := by decide +kernel
theorem dX3_setLast_55 : decode cX3_setLast 55 = .ok (.iastore, 1) := by decide +kernel
theorem dX3_setLast_56 : decode cX3_setLast 56 = .ok (.return_, 1) := by decide +kernel
theorem dX3_overAndLate_0 : decode cX3_overAndLate 0 = .ok (.iconst 0, 1) := by decide +kernel
theorem dX3_overAndLate_1 : decode cX3_overAndLate 1 = .ok (.istore_n 1, 1) := by decide +kernel
theorem dX3_overAndLate_2 : decode cX3_overAndLate 2 = .ok (.iconst 0, 1) := by decide +kernel
theorem dX3_overAndLate_3 : decode cX3_overAndLate 3 = .ok (.istore_n 2, 1) := by decide +kernel
theorem dX3_overAndLate_4 : decode cX3_overAndLate 4 = .ok (.iload_n 2, 1) := by decide +kernel
theorem dX3_overAndLate_5 : decode cX3_overAndLate 5 = .ok (.aload_n 0, 1) := by decide +kernel
theorem dX3_overAndLate_6 : decode cX3_overAndLate 6 = .ok (.getfield 33, 3) := by decide +kernel
theorem dX3_overAndLate_9 : decode cX3_overAndLate 9 = .ok (.if_icmp .ge 25, 3) := by decide +kernel
theorem dX3_overAndLate_12 : decode cX3_overAndLate 12 = .ok (.iload_n 1, 1) := by decide +kernel
theorem dX3_overAndLate_13 : decode cX3_overAndLate 13 = .ok (.aload_n 0, 1) := by decide +kernel
theorem dX3_overAndLate_14 : decode cX3_overAndLate 14 = .ok (.getfield 27, 3) := by decide +kernel
theorem dX3_overAndLate_17 : decode cX3_overAndLate 17 = .ok (.iload_n 2, 1) := by decide +kernel
theorem dX3_overAndLate_18 : decode cX3_overAndLate 18 = .ok (.iaload, 1) := by decide +kernel
theorem dX3_overAndLate_19 : decode cX3_overAndLate 19 = .ok (.aload_n 0, 1) := by decide +kernel
theorem dX3_overAndLate_20 : decode cX3_overAndLate 20 = .ok (.getfield 30, 3) := by decide +kernel
theorem dX3_overAndLate_23 : decode cX3_overAndLate 23 = .ok (.iload_n 2, 1) := by decide +kernel
theorem dX3_overAndLate_24 : decode cX3_overAndLate 24 = .ok (.iaload, 1) := by decide +kernel
theorem dX3_overAndLate_25 : decode cX3_overAndLate 25 = .ok (.iadd, 1) := by decide +kernel
theorem dX3_overAndLate_26 : decode cX3_overAndLate 26 = .ok (.iadd, 1) := by decide +kernel
theorem dX3_overAndLate_27 : decode cX3_overAndLate 27 = .ok (.istore_n 1, 1) := by decide +kernel
theorem dX3_overAndLate_28 : decode cX3_overAndLate 28 = .ok (.iinc 2 1, 3) := by decide +kernel
theorem dX3_overAndLate_31 : decode cX3_overAndLate 31 = .ok (.goto (-27), 3) := by decide +kernel
theorem dX3_overAndLate_34 : decode cX3_overAndLate 34 = .ok (.iload_n 1, 1) := by decide +kernel
theorem dX3_overAndLate_35 : decode cX3_overAndLate 35 = .ok (.ireturn, 1) := by decide +kernel
theorem dX3_tellOverAndLate_0 : decode cX3_tellOverAndLate 0 = .ok (.iconst 0, 1) := by decide +kernel
theorem dX3_tellOverAndLate_1 : decode cX3_tellOverAndLate 1 = .ok (.istore 4, 2) := by decide +kernel
theorem dX3_tellOverAndLate_3 : decode cX3_tellOverAndLate 3 = .ok (.iconst 0, 1) := by decide +kernel
theorem dX3_tellOverAndLate_4 : decode cX3_tellOverAndLate 4 = .ok (.istore 5, 2) := by decide +kernel
theorem dX3_tellOverAndLate_6 : decode cX3_tellOverAndLate 6 = .ok (.iload 5, 2) := by decide +kernel
theorem dX3_tellOverAndLate_8 : decode cX3_tellOverAndLate 8 = .ok (.aload_n 0, 1) := by decide +kernel
theorem dX3_tellOverAndLate_9 : decode cX3_tellOverAndLate 9 = .ok (.getfield 33, 3) := by decide +kernel
theorem dX3_tellOverAndLate_12 : decode cX3_tellOverAndLate 12 = .ok (.if_icmp .ge 108, 3) := by decide +kernel
theorem dX3_tellOverAndLate_15 : decode cX3_tellOverAndLate 15 = .ok (.aload_n 0, 1) := by decide +kernel
theorem dX3_tellOverAndLate_16 : decode cX3_tellOverAndLate 16 = .ok (.getfield 27, 3) := by decide +kernel
theorem dX3_tellOverAndLate_19 : decode cX3_tellOverAndLate 19 = .ok (.iload 5, 2) := by decide +kernel
theorem dX3_tellOverAndLate_21 : decode cX3_tellOverAndLate 21 = .ok (.iaload, 1) := by decide +kernel
theorem dX3_tellOverAndLate_22 : decode cX3_tellOverAndLate 22 = .ok (.ifCond .le 47, 3) := by decide +kernel
theorem dX3_tellOverAndLate_25 : decode cX3_tellOverAndLate 25 = .ok (.aload_n 2, 1) := by decide +kernel
theorem dX3_tellOverAndLate_26 : decode cX3_tellOverAndLate 26 = .ok (.getfield 37, 3) := by decide +kernel
theorem dX3_tellOverAndLate_29 : decode cX3_tellOverAndLate 29 = .ok (.aload_n 0, 1) := by decide +kernel
theorem dX3_tellOverAndLate_30 : decode cX3_tellOverAndLate 30 = .ok (.getfield 21, 3) := by decide +kernel
theorem dX3_tellOverAndLate_33 : decode cX3_tellOverAndLate 33 = .ok (.iload 5, 2) := by decide +kernel
theorem dX3_tellOverAndLate_35 : decode cX3_tellOverAndLate 35 = .ok (.iaload, 1) := by decide +kernel
theorem dX3_tellOverAndLate_36 : decode cX3_tellOverAndLate 36 = .ok (.iconst 1, 1) := by decide +kernel
theorem dX3_tellOverAndLate_37 : decode cX3_tellOverAndLate 37 = .ok (.if_icmp .ne 7, 3) := by decide +kernel
theorem dX3_tellOverAndLate_40 : decode cX3_tellOverAndLate 40 = .ok (.iconst 5, 1) := by decide +kernel
theorem dX3_tellOverAndLate_41 : decode cX3_tellOverAndLate 41 = .ok (.goto 4, 3) := by decide +kernel
theorem dX3_tellOverAndLate_44 : decode cX3_tellOverAndLate 44 = .ok (.iconst 4, 1) := by decide +kernel
theorem dX3_tellOverAndLate_45 : decode cX3_tellOverAndLate 45 = .ok (.iaload, 1) := by decide +kernel
theorem dX3_tellOverAndLate_46 : decode cX3_tellOverAndLate 46 = .ok (.istore 6, 2) := by decide +kernel
theorem dX3_tellOverAndLate_48 : decode cX3_tellOverAndLate 48 = .ok (.aload_n 1, 1) := by decide +kernel
theorem dX3_tellOverAndLate_49 : decode cX3_tellOverAndLate 49 = .ok (.aload_n 3, 1) := by decide +kernel
theorem dX3_tellOverAndLate_50 : decode cX3_tellOverAndLate 50 = .ok (.iload 4, 2) := by decide +kernel
theorem dX3_tellOverAndLate_52 : decode cX3_tellOverAndLate 52 = .ok (.iload 6, 2) := by decide +kernel
theorem dX3_tellOverAndLate_54 : decode cX3_tellOverAndLate 54 = .ok (.iadd, 1) := by decide +kernel
theorem dX3_tellOverAndLate_55 : decode cX3_tellOverAndLate 55 = .ok (.invokevirtual 42, 3) := by decide +kernel
theorem dX3_tellOverAndLate_58 : decode cX3_tellOverAndLate 58 = .ok (.iconst 2, 1) := by decide +kernel
theorem dX3_tellOverAndLate_59 : decode cX3_tellOverAndLate 59 = .ok (.aload_n 0, 1) := by decide +kernel
theorem dX3_tellOverAndLate_60 : decode cX3_tellOverAndLate 60 = .ok (.getfield 27, 3) := by decide +kernel
theorem dX3_tellOverAndLate_63 : decode cX3_tellOverAndLate 63 = .ok (.iload 5, 2) := by decide +kernel
theorem dX3_tellOverAndLate_65 : decode cX3_tellOverAndLate 65 = .ok (.iaload, 1) := by decide +kernel
theorem dX3_tellOverAndLate_66 : decode cX3_tellOverAndLate 66 = .ok (.invokevirtual 48, 3) := by decide +kernel
theorem dX3_tellOverAndLate_69 : decode cX3_tellOverAndLate 69 = .ok (.aload_n 0, 1) := by decide +kernel
theorem dX3_tellOverAndLate_70 : decode cX3_tellOverAndLate 70 = .ok (.getfield 30, 3) := by decide +kernel
theorem dX3_tellOverAndLate_73 : decode cX3_tellOverAndLate 73 = .ok (.iload 5, 2) := by decide +kernel
theorem dX3_tellOverAndLate_75 : decode cX3_tellOverAndLate 75 = .ok (.iaload, 1) := by decide +kernel
theorem dX3_tellOverAndLate_76 : decode cX3_tellOverAndLate 76 = .ok (.ifCond .le 26, 3) := by decide +kernel
theorem dX3_tellOverAndLate_79 : decode cX3_tellOverAndLate 79 = .ok (.aload_n 1, 1) := by decide +kernel
theorem dX3_tellOverAndLate_80 : decode cX3_tellOverAndLate 80 = .ok (.aload_n 0, 1) := by decide +kernel
theorem dX3_tellOverAndLate_81 : decode cX3_tellOverAndLate 81 = .ok (.getfield 11, 3) := by decide +kernel
theorem dX3_tellOverAndLate_84 : decode cX3_tellOverAndLate 84 = .ok (.iload 5, 2) := by decide +kernel
theorem dX3_tellOverAndLate_86 : decode cX3_tellOverAndLate 86 = .ok (.iaload, 1) := by decide +kernel
theorem dX3_tellOverAndLate_87 : decode cX3_tellOverAndLate 87 = .ok (.sipush 1440, 3) := by decide +kernel
theorem dX3_tellOverAndLate_90 : decode cX3_tellOverAndLate 90 = .ok (.iadd, 1) := by decide +kernel
theorem dX3_tellOverAndLate_91 : decode cX3_tellOverAndLate 91 = .ok (.iconst 3, 1) := by decide +kernel
theorem dX3_tellOverAndLate_92 : decode cX3_tellOverAndLate 92 = .ok (.aload_n 0, 1) := by decide +kernel
theorem dX3_tellOverAndLate_93 : decode cX3_tellOverAndLate 93 = .ok (.getfield 30, 3) := by decide +kernel
theorem dX3_tellOverAndLate_96 : decode cX3_tellOverAndLate 96 = .ok (.iload 5, 2) := by decide +kernel
theorem dX3_tellOverAndLate_98 : decode cX3_tellOverAndLate 98 = .ok (.iaload, 1) := by decide +kernel
theorem dX3_tellOverAndLate_99 : decode cX3_tellOverAndLate 99 = .ok (.invokevirtual 48, 3) := by decide +kernel
theorem dX3_tellOverAndLate_102 : decode cX3_tellOverAndLate 102 = .ok (.iload 4, 2) := by decide +kernel
theorem dX3_tellOverAndLate_104 : decode cX3_tellOverAndLate 104 = .ok (.aload_n 0, 1) := by decide +kernel
theorem dX3_tellOverAndLate_105 : decode cX3_tellOverAndLate 105 = .ok (.getfield 18, 3) := by decide +kernel
theorem dX3_tellOverAndLate_108 : decode cX3_tellOverAndLate 108 = .ok (.iload 5, 2) := by decide +kernel
theorem dX3_tellOverAndLate_110 : decode cX3_tellOverAndLate 110 = .ok (.iaload, 1) := by decide +kernel
theorem dX3_tellOverAndLate_111 : decode cX3_tellOverAndLate 111 = .ok (.iadd, 1) := by decide +kernel
theorem dX3_tellOverAndLate_112 : decode cX3_tellOverAndLate 112 = .ok (.istore 4, 2) := by decide +kernel
theorem dX3_tellOverAndLate_114 : decode cX3_tellOverAndLate 114 = .ok (.iinc 5 1, 3) := by decide +kernel
theorem dX3_tellOverAndLate_117 : decode cX3_tellOverAndLate 117 = .ok (.goto (-111), 3) := by decide +kernel
theorem dX3_tellOverAndLate_120 : decode cX3_tellOverAndLate 120 = .ok (.return_, 1) := by decide +kernel
theorem dX3_tell_0 : decode cX3_tell 0 = .ok (.iload_n 1, 1) := by decide +kernel
theorem dX3_tell_1 : decode cX3_tell 1 = .ok (.ifCond .lt 11, 3) := by decide +kernel
theorem dX3_tell_4 : decode cX3_tell 4 = .ok (.iload_n 1, 1) := by decide +kernel
theorem dX3_tell_5 : decode cX3_tell 5 = .ok (.aload_n 0, 1) := by decide +kernel
theorem dX3_tell_6 : decode cX3_tell 6 = .ok (.getfield 33, 3) := by decide +kernel
theorem dX3_tell_9 : decode cX3_tell 9 = .ok (.if_icmp .lt 5, 3) := by decide +kernel
theorem dX3_tell_12 : decode cX3_tell 12 = .ok (.iconst (-1), 1) := by decide +kernel
theorem dX3_tell_13 : decode cX3_tell 13 = .ok (.ireturn, 1) := by decide +kernel
theorem dX3_tell_14 : decode cX3_tell 14 = .ok (.iload_n 2, 1) := by decide +kernel
theorem dX3_tell_15 : decode cX3_tell 15 = .ok (.tableswitch 68 0 4 #[33, 40, 47, 54, 61], 33) := by decide +kernel
theorem dX3_tell_48 : decode cX3_tell 48 = .ok (.aload_n 0, 1) := by decide +kernel
theorem dX3_tell_49 : decode cX3_tell 49 = .ok (.getfield 11, 3) := by decide +kernel
theorem dX3_tell_52 : decode cX3_tell 52 = .ok (.iload_n 1, 1) := by decide +kernel
theorem dX3_tell_53 : decode cX3_tell 53 = .ok (.iaload, 1) := by decide +kernel
theorem dX3_tell_54 : decode cX3_tell 54 = .ok (.ireturn, 1) := by decide +kernel
theorem dX3_tell_55 : decode cX3_tell 55 = .ok (.aload_n 0, 1) := by decide +kernel
theorem dX3_tell_56 : decode cX3_tell 56 = .ok (.getfield 15, 3) := by decide +kernel
theorem dX3_tell_59 : decode cX3_tell 59 = .ok (.iload_n 1, 1) := by decide +kernel
theorem dX3_tell_60 : decode cX3_tell 60 = .ok (.iaload, 1) := by decide +kernel
theorem dX3_tell_61 : decode cX3_tell 61 = .ok (.ireturn, 1) := by decide +kernel
theorem dX3_tell_62 : decode cX3_tell 62 = .ok (.aload_n 0, 1) := by decide +kernel
theorem dX3_tell_63 : decode cX3_tell 63 = .ok (.getfield 18, 3) := by decide +kernel
theorem dX3_tell_66 : decode cX3_tell 66 = .ok (.iload_n 1, 1) := by decide +kernel
theorem dX3_tell_67 : decode cX3_tell 67 = .ok (.iaload, 1) := by decide +kernel
theorem dX3_tell_68 : decode cX3_tell 68 = .ok (.ireturn, 1) := by decide +kernel
theorem dX3_tell_69 : decode cX3_tell 69 = .ok (.aload_n 0, 1) := by decide +kernel
theorem dX3_tell_70 : decode cX3_tell 70 = .ok (.getfield 21, 3) := by decide +kernel
theorem dX3_tell_73 : decode cX3_tell 73 = .ok (.iload_n 1, 1) := by decide +kernel
theorem dX3_tell_74 : decode cX3_tell 74 = .ok (.iaload, 1) := by decide +kernel
theorem dX3_tell_75 : decode cX3_tell 75 = .ok (.ireturn, 1) := by decide +kernel
theorem dX3_tell_76 : decode cX3_tell 76 = .ok (.aload_n 0, 1) := by decide +kernel
theorem dX3_tell_77 : decode cX3_tell 77 = .ok (.getfield 24, 3) := by decide +kernel
theorem dX3_tell_80 : decode cX3_tell 80 = .ok (.iload_n 1, 1) := by decide +kernel
theorem dX3_tell_81 : decode cX3_tell 81 = .ok (.iaload, 1) := by decide +kernel
theorem dX3_tell_82 : decode cX3_tell 82 = .ok (.ireturn, 1) := by decide +kernel
theorem dX3_tell_83 : decode cX3_tell 83 = .ok (.iconst (-1), 1) := by decide +kernel
theorem dX3_tell_84 : decode cX3_tell 84 = .ok (.ireturn, 1) := by decide +kernel
theorem dX4_init_0 : decode cX4_init 0 = .ok (.aload_n 0, 1) := by decide +kernel
theorem dX4_init_1 : decode cX4_init 1 = .ok (.invokespecial 3, 3) := by decide +kernel
theorem dX4_init_4 : decode cX4_init 4 = .ok (.aload_n 0, 1) := by decide +kernel
theorem dX4_init_5 : decode cX4_init 5 = .ok (.getstatic 9, 3) := by decide +kernel
theorem dX4_init_8 : decode cX4_init 8 = .ok (.invokevirtual 15, 3) := by decide +kernel
theorem dX4_init_11 : decode cX4_init 11 = .ok (.checkcast 16, 3) := by decide +kernel
theorem dX4_init_14 : decode cX4_init 14 = .ok (.putfield 20, 3) := by decide +kernel
theorem dX4_init_17 : decode cX4_init 17 = .ok (.aload_n 0, 1) := by decide +kernel
theorem dX4_init_18 : decode cX4_init 18 = .ok (.getstatic 9, 3) := by decide +kernel
theorem dX4_init_21 : decode cX4_init 21 = .ok (.arraylength, 1) := by decide +kernel
theorem dX4_init_22 : decode cX4_init 22 = .ok (.newarray .int, 2) := by decide +kernel
theorem dX4_init_24 : decode cX4_init 24 = .ok (.putfield 23, 3) := by decide +kernel
theorem dX4_init_27 : decode cX4_init 27 = .ok (.return_, 1) := by decide +kernel
theorem dX4_placeOf_0 : decode cX4_placeOf 0 = .ok (.iconst 0, 1) := by decide +kernel
theorem dX4_placeOf_1 : decode cX4_placeOf 1 = .ok (.istore_n 1, 1) := by decide +kernel
theorem dX4_placeOf_2 : decode cX4_placeOf 2 = .ok (.iload_n 1, 1) := by decide +kernel
theorem dX4_placeOf_3 : decode cX4_placeOf 3 = .ok (.getstatic 26, 3) := by decide +kernel
theorem dX4_placeOf_6 : decode cX4_placeOf 6 = .ok (.arraylength, 1) := by decide +kernel
theorem dX4_placeOf_7 : decode cX4_placeOf 7 = .ok (.if_icmp .ge 20, 3) := by decide +kernel
theorem dX4_placeOf_10 : decode cX4_placeOf 10 = .ok (.getstatic 26, 3) := by decide +kernel
theorem dX4_placeOf_13 : decode cX4_placeOf 13 = .ok (.iload_n 1, 1) := by decide +kernel
theorem dX4_placeOf_14 : decode cX4_placeOf 14 = .ok (.caload, 1) := by decide +kernel
theorem dX4_placeOf_15 : decode cX4_placeOf 15 = .ok (.iload_n 0, 1) := by decide +kernel
theorem dX4_placeOf_16 : decode cX4_placeOf 16 = .ok (.if_icmp .ne 5, 3) := by decide +kernel
theorem dX4_placeOf_19 : decode cX4_placeOf 19 = .ok (.iload_n 1, 1) := by decide +kernel
theorem dX4_placeOf_20 : decode cX4_placeOf 20 = .ok (.ireturn, 1) := by decide +kernel
theorem dX4_placeOf_21 : decode cX4_placeOf 21 = .ok (.iinc 1 1, 3) := by decide +kernel
theorem dX4_placeOf_24 : decode cX4_placeOf 24 = .ok (.goto (-22), 3) := by decide +kernel
theorem dX4_placeOf_27 : decode cX4_placeOf 27 = .ok (.iconst (-1), 1) := by decide +kernel
theorem dX4_placeOf_28 : decode cX4_placeOf 28 = .ok (.ireturn, 1) := by decide +kernel
theorem dX4_tell_0 : decode cX4_tell 0 = .ok (.iload_n 2, 1) := by decide +kernel
theorem dX4_tell_1 : decode cX4_tell 1 = .ok (.aload_n 1, 1) := by decide +kernel
theorem dX4_tell_2 : decode cX4_tell 2 = .ok (.arraylength, 1) := by decide +kernel
theorem dX4_tell_3 : decode cX4_tell 3 = .ok (.invokestatic 30, 3) := by decide +kernel
theorem dX4_tell_6 : decode cX4_tell 6 = .ok (.istore_n 3, 1) := by decide +kernel
theorem dX4_tell_7 : decode cX4_tell 7 = .ok (.getstatic 9, 3) := by decide +kernel
theorem dX4_tell_10 : decode cX4_tell 10 = .ok (.iconst 0, 1) := by decide +kernel
theorem dX4_tell_11 : decode cX4_tell 11 = .ok (.aload_n 0, 1) := by decide +kernel
theorem dX4_tell_12 : decode cX4_tell 12 = .ok (.getfield 23, 3) := by decide +kernel
theorem dX4_tell_15 : decode cX4_tell 15 = .ok (.iconst 0, 1) := by decide +kernel
theorem dX4_tell_16 : decode cX4_tell 16 = .ok (.getstatic 9, 3) := by decide +kernel
theorem dX4_tell_19 : decode cX4_tell 19 = .ok (.arraylength, 1) := by decide +kernel
theorem dX4_tell_20 : decode cX4_tell 20 = .ok (.invokestatic 36, 3) := by decide +kernel
theorem dX4_tell_23 : decode cX4_tell 23 = .ok (.iconst 0, 1) := by decide +kernel
theorem dX4_tell_24 : decode cX4_tell 24 = .ok (.istore 4, 2) := by decide +kernel
theorem dX4_tell_26 : decode cX4_tell 26 = .ok (.iload 4, 2) := by decide +kernel
theorem dX4_tell_28 : decode cX4_tell 28 = .ok (.iload_n 3, 1) := by decide +kernel
theorem dX4_tell_29 : decode cX4_tell 29 = .ok (.if_icmp .ge 158, 3) := by decide +kernel
theorem dX4_tell_32 : decode cX4_tell 32 = .ok (.aload_n 1, 1) := by decide +kernel
theorem dX4_tell_33 : decode cX4_tell 33 = .ok (.iload 4, 2) := by decide +kernel
theorem dX4_tell_35 : decode cX4_tell 35 = .ok (.iaload, 1) := by decide +kernel
theorem dX4_tell_36 : decode cX4_tell 36 = .ok (.invokestatic 42, 3) := by decide +kernel
theorem dX4_tell_39 : decode cX4_tell 39 = .ok (.istore 5, 2) := by decide +kernel
theorem dX4_tell_41 : decode cX4_tell 41 = .ok (.iload 5, 2) := by decide +kernel
theorem dX4_tell_43 : decode cX4_tell 43 = .ok (.iconst (-1), 1) := by decide +kernel
theorem dX4_tell_44 : decode cX4_tell 44 = .ok (.if_icmp .ne 9, 3) := by decide +kernel
theorem dX4_tell_47 : decode cX4_tell 47 = .ok (.bipush 100, 2) := by decide +kernel
theorem dX4_tell_49 : decode cX4_tell 49 = .ok (.iload 4, 2) := by decide +kernel
theorem dX4_tell_51 : decode cX4_tell 51 = .ok (.iadd, 1) := by decide +kernel
theorem dX4_tell_52 : decode cX4_tell 52 = .ok (.ireturn, 1) := by decide +kernel
theorem dX4_tell_53 : decode cX4_tell 53 = .ok (.iload 4, 2) := by decide +kernel
theorem dX4_tell_55 : decode cX4_tell 55 = .ok (.iconst 1, 1) := by decide +kernel
theorem dX4_tell_56 : decode cX4_tell 56 = .ok (.iadd, 1) := by decide +kernel
theorem dX4_tell_57 : decode cX4_tell 57 = .ok (.istore 6, 2) := by decide +kernel
theorem dX4_tell_59 : decode cX4_tell 59 = .ok (.aload_n 1, 1) := by decide +kernel
theorem dX4_tell_60 : decode cX4_tell 60 = .ok (.iload 6, 2) := by decide +kernel
theorem dX4_tell_62 : decode cX4_tell 62 = .ok (.iload_n 3, 1) := by decide +kernel
theorem dX4_tell_63 : decode cX4_tell 63 = .ok (.invokestatic 46, 3) := by decide +kernel
theorem dX4_tell_66 : decode cX4_tell 66 = .ok (.istore 7, 2) := by decide +kernel
theorem dX4_tell_68 : decode cX4_tell 68 = .ok (.iload 7, 2) := by decide +kernel
theorem dX4_tell_70 : decode cX4_tell 70 = .ok (.iload 6, 2) := by decide +kernel
theorem dX4_tell_72 : decode cX4_tell 72 = .ok (.if_icmp .ne 10, 3) := by decide +kernel
theorem dX4_tell_75 : decode cX4_tell 75 = .ok (.sipush 200, 3) := by decide +kernel
theorem dX4_tell_78 : decode cX4_tell 78 = .ok (.iload 6, 2) := by decide +kernel
theorem dX4_tell_80 : decode cX4_tell 80 = .ok (.iadd, 1) := by decide +kernel
theorem dX4_tell_81 : decode cX4_tell 81 = .ok (.ireturn, 1) := by decide +kernel
theorem dX4_tell_82 : decode cX4_tell 82 = .ok (.iload 7, 2) := by decide +kernel
theorem dX4_tell_84 : decode cX4_tell 84 = .ok (.iload 6, 2) := by decide +kernel
theorem dX4_tell_86 : decode cX4_tell 86 = .ok (.isub, 1) := by decide +kernel
theorem dX4_tell_87 : decode cX4_tell 87 = .ok (.iconst 4, 1) := by decide +kernel
theorem dX4_tell_88 : decode cX4_tell 88 = .ok (.if_icmp .le 12, 3) := by decide +kernel
theorem dX4_tell_91 : decode cX4_tell 91 = .ok (.sipush 300, 3) := by decide +kernel
theorem dX4_tell_94 : decode cX4_tell 94 = .ok (.iload 6, 2) := by decide +kernel
theorem dX4_tell_96 : decode cX4_tell 96 = .ok (.iadd, 1) := by decide +kernel
theorem dX4_tell_97 : decode cX4_tell 97 = .ok (.iconst 4, 1) := by decide +kernel
theorem dX4_tell_98 : decode cX4_tell 98 = .ok (.iadd, 1) := by decide +kernel
theorem dX4_tell_99 : decode cX4_tell 99 = .ok (.ireturn, 1) := by decide +kernel
theorem dX4_tell_100 : decode cX4_tell 100 = .ok (.aload_n 1, 1) := by decide +kernel
theorem dX4_tell_101 : decode cX4_tell 101 = .ok (.iload 6, 2) := by decide +kernel
theorem dX4_tell_103 : decode cX4_tell 103 = .ok (.iload 7, 2) := by decide +kernel
theorem dX4_tell_105 : decode cX4_tell 105 = .ok (.invokestatic 50, 3) := by decide +kernel
theorem dX4_tell_108 : decode cX4_tell 108 = .ok (.istore 8, 2) := by decide +kernel
theorem dX4_tell_110 : decode cX4_tell 110 = .ok (.iload 5, 2) := by decide +kernel
theorem dX4_tell_112 : decode cX4_tell 112 = .ok (.iload 8, 2) := by decide +kernel
theorem dX4_tell_114 : decode cX4_tell 114 = .ok (.invokestatic 53, 3) := by decide +kernel
theorem dX4_tell_117 : decode cX4_tell 117 = .ok (.ifCond .ne 10, 3) := by decide +kernel
theorem dX4_tell_120 : decode cX4_tell 120 = .ok (.sipush 400, 3) := by decide +kernel
theorem dX4_tell_123 : decode cX4_tell 123 = .ok (.iload 6, 2) := by decide +kernel
theorem dX4_tell_125 : decode cX4_tell 125 = .ok (.iadd, 1) := by decide +kernel
theorem dX4_tell_126 : decode cX4_tell 126 = .ok (.ireturn, 1) := by decide +kernel
theorem dX4_tell_127 : decode cX4_tell 127 = .ok (.aload_n 0, 1) := by decide +kernel
theorem dX4_tell_128 : decode cX4_tell 128 = .ok (.getfield 23, 3) := by decide +kernel
theorem dX4_tell_131 : decode cX4_tell 131 = .ok (.iload 5, 2) := by decide +kernel
theorem dX4_tell_133 : decode cX4_tell 133 = .ok (.iload 8, 2) := by decide +kernel
theorem dX4_tell_135 : decode cX4_tell 135 = .ok (.iastore, 1) := by decide +kernel
theorem dX4_tell_136 : decode cX4_tell 136 = .ok (.iload 7, 2) := by decide +kernel
theorem dX4_tell_138 : decode cX4_tell 138 = .ok (.iload_n 3, 1) := by decide +kernel
theorem dX4_tell_139 : decode cX4_tell 139 = .ok (.if_icmp .lt 23, 3) := by decide +kernel
theorem dX4_tell_142 : decode cX4_tell 142 = .ok (.aload_n 0, 1) := by decide +kernel
theorem dX4_tell_143 : decode cX4_tell 143 = .ok (.getfield 23, 3) := by decide +kernel
theorem dX4_tell_146 : decode cX4_tell 146 = .ok (.iconst 0, 1) := by decide +kernel
theorem dX4_tell_147 : decode cX4_tell 147 = .ok (.aload_n 0, 1) := by decide +kernel
theorem dX4_tell_148 : decode cX4_tell 148 = .ok (.getfield 20, 3) := by decide +kernel
theorem dX4_tell_151 : decode cX4_tell 151 = .ok (.iconst 0, 1) := by decide +kernel
theorem dX4_tell_152 : decode cX4_tell 152 = .ok (.aload_n 0, 1) := by decide +kernel
theorem dX4_tell_153 : decode cX4_tell 153 = .ok (.getfield 20, 3) := by decide +kernel
theorem dX4_tell_156 : decode cX4_tell 156 = .ok (.arraylength, 1) := by decide +kernel
theorem dX4_tell_157 : decode cX4_tell 157 = .ok (.invokestatic 36, 3) := by decide +kernel
theorem dX4_tell_160 : decode cX4_tell 160 = .ok (.iconst 0, 1) := by decide +kernel
theorem dX4_tell_161 : decode cX4_tell 161 = .ok (.ireturn, 1) := by decide +kernel
theorem dX4_tell_162 : decode cX4_tell 162 = .ok (.aload_n 1, 1) := by decide +kernel
theorem dX4_tell_163 : decode cX4_tell 163 = .ok (.iload 7, 2) := by decide +kernel
theorem dX4_tell_165 : decode cX4_tell 165 = .ok (.iaload, 1) := by decide +kernel
theorem dX4_tell_166 : decode cX4_tell 166 = .ok (.bipush 59, 2) := by decide +kernel
theorem dX4_tell_168 : decode cX4_tell 168 = .ok (.if_icmp .eq 10, 3) := by decide +kernel
theorem dX4_tell_171 : decode cX4_tell 171 = .ok (.sipush 500, 3) := by decide +kernel
theorem dX4_tell_174 : decode cX4_tell 174 = .ok (.iload 7, 2) := by decide +kernel
theorem dX4_tell_176 : decode cX4_tell 176 = .ok (.iadd, 1) := by decide +kernel
theorem dX4_tell_177 : decode cX4_tell 177 = .ok (.ireturn, 1) := by decide +kernel
theorem dX4_tell_178 : decode cX4_tell 178 = .ok (.iload 7, 2) := by decide +kernel
theorem dX4_tell_180 : decode cX4_tell 180 = .ok (.iconst 1, 1) := by decide +kernel
theorem dX4_tell_181 : decode cX4_tell 181 = .ok (.iadd, 1) := by decide +kernel
theorem dX4_tell_182 : decode cX4_tell 182 = .ok (.istore 4, 2) := by decide +kernel
theorem dX4_tell_184 : decode cX4_tell 184 = .ok (.goto (-158), 3) := by decide +kernel
theorem dX4_tell_187 : decode cX4_tell 187 = .ok (.bipush 100, 2) := by decide +kernel
theorem dX4_tell_189 : decode cX4_tell 189 = .ok (.iload_n 3, 1) := by decide +kernel
theorem dX4_tell_190 : decode cX4_tell 190 = .ok (.iadd, 1) := by decide +kernel
theorem dX4_tell_191 : decode cX4_tell 191 = .ok (.ireturn, 1) := by decide +kernel
theorem dX4_endOfDigits_0 : decode cX4_endOfDigits 0 = .ok (.iload_n 1, 1) := by decide +kernel
theorem dX4_endOfDigits_1 : decode cX4_endOfDigits 1 = .ok (.istore_n 3, 1) := by decide +kernel
theorem dX4_endOfDigits_2 : decode cX4_endOfDigits 2 = .ok (.iload_n 3, 1) := by decide +kernel
theorem dX4_endOfDigits_3 : decode cX4_endOfDigits 3 = .ok (.iload_n 2, 1) := by decide +kernel
theorem dX4_endOfDigits_4 : decode cX4_endOfDigits 4 = .ok (.if_icmp .ge 25, 3) := by decide +kernel
theorem dX4_endOfDigits_7 : decode cX4_endOfDigits 7 = .ok (.aload_n 0, 1) := by decide +kernel
theorem dX4_endOfDigits_8 : decode cX4_endOfDigits 8 = .ok (.iload_n 3, 1) := by decide +kernel
theorem dX4_endOfDigits_9 : decode cX4_endOfDigits 9 = .ok (.iaload, 1) := by decide +kernel
theorem dX4_endOfDigits_10 : decode cX4_endOfDigits 10 = .ok (.bipush 48, 2) := by decide +kernel
theorem dX4_endOfDigits_12 : decode cX4_endOfDigits 12 = .ok (.if_icmp .lt 17, 3) := by decide +kernel
theorem dX4_endOfDigits_15 : decode cX4_endOfDigits 15 = .ok (.aload_n 0, 1) := by decide +kernel
theorem dX4_endOfDigits_16 : decode cX4_endOfDigits 16 = .ok (.iload_n 3, 1) := by decide +kernel
theorem dX4_endOfDigits_17 : decode cX4_endOfDigits 17 = .ok (.iaload, 1) := by decide +kernel
theorem dX4_endOfDigits_18 : decode cX4_endOfDigits 18 = .ok (.bipush 57, 2) := by decide +kernel
theorem dX4_endOfDigits_20 : decode cX4_endOfDigits 20 = .ok (.if_icmp .gt 9, 3) := by decide +kernel
theorem dX4_endOfDigits_23 : decode cX4_endOfDigits 23 = .ok (.iinc 3 1, 3) := by decide +kernel
theorem dX4_endOfDigits_26 : decode cX4_endOfDigits 26 = .ok (.goto (-24), 3) := by decide +kernel
theorem dX4_endOfDigits_29 : decode cX4_endOfDigits 29 = .ok (.iload_n 3, 1) := by decide +kernel
theorem dX4_endOfDigits_30 : decode cX4_endOfDigits 30 = .ok (.ireturn, 1) := by decide +kernel
theorem dX4_numberOf_0 : decode cX4_numberOf 0 = .ok (.iconst 0, 1) := by decide +kernel
theorem dX4_numberOf_1 : decode cX4_numberOf 1 = .ok (.istore_n 3, 1) := by decide +kernel
theorem dX4_numberOf_2 : decode cX4_numberOf 2 = .ok (.iload_n 1, 1) := by decide +kernel
theorem dX4_numberOf_3 : decode cX4_numberOf 3 = .ok (.istore 4, 2) := by decide +kernel
theorem dX4_numberOf_5 : decode cX4_numberOf 5 = .ok (.iload 4, 2) := by decide +kernel
theorem dX4_numberOf_7 : decode cX4_numberOf 7 = .ok (.iload_n 2, 1) := by decide +kernel
theorem dX4_numberOf_8 : decode cX4_numberOf 8 = .ok (.if_icmp .ge 22, 3) := by decide +kernel
theorem dX4_numberOf_11 : decode cX4_numberOf 11 = .ok (.iload_n 3, 1) := by decide +kernel
theorem dX4_numberOf_12 : decode cX4_numberOf 12 = .ok (.bipush 10, 2) := by decide +kernel
theorem dX4_numberOf_14 : decode cX4_numberOf 14 = .ok (.imul, 1) := by decide +kernel
theorem dX4_numberOf_15 : decode cX4_numberOf 15 = .ok (.aload_n 0, 1) := by decide +kernel
theorem dX4_numberOf_16 : decode cX4_numberOf 16 = .ok (.iload 4, 2) := by decide +kernel
theorem dX4_numberOf_18 : decode cX4_numberOf 18 = .ok (.iaload, 1) := by decide +kernel
theorem dX4_numberOf_19 : decode cX4_numberOf 19 = .ok (.iadd, 1) := by decide +kernel
theorem dX4_numberOf_20 : decode cX4_numberOf 20 = .ok (.bipush 48, 2) := by decide +kernel
theorem dX4_numberOf_22 : decode cX4_numberOf 22 = .ok (.isub, 1) := by decide +kernel
theorem dX4_numberOf_23 : decode cX4_numberOf 23 = .ok (.istore_n 3, 1) := by decide +kernel
theorem dX4_numberOf_24 : decode cX4_numberOf 24 = .ok (.iinc 4 1, 3) := by decide +kernel
theorem dX4_numberOf_27 : decode cX4_numberOf 27 = .ok (.goto (-22), 3) := by decide +kernel
theorem dX4_numberOf_30 : decode cX4_numberOf 30 = .ok (.iload_n 3, 1) := by decide +kernel
theorem dX4_numberOf_31 : decode cX4_numberOf 31 = .ok (.ireturn, 1) := by decide +kernel
theorem dX4_canBe_0 : decode cX4_canBe 0 = .ok (.iload_n 0, 1) := by decide +kernel
theorem dX4_canBe_1 : decode cX4_canBe 1 = .ok (.bipush 6, 2) := by decide +kernel
theorem dX4_canBe_3 : decode cX4_canBe 3 = .ok (.if_icmp .eq 9, 3) := by decide +kernel
theorem dX4_canBe_6 : decode cX4_canBe 6 = .ok (.iload_n 0, 1) := by decide +kernel
theorem dX4_canBe_7 : decode cX4_canBe 7 = .ok (.bipush 9, 2) := by decide +kernel
theorem dX4_canBe_9 : decode cX4_canBe 9 = .ok (.if_icmp .ne 15, 3) := by decide +kernel
theorem dX4_canBe_12 : decode cX4_canBe 12 = .ok (.iload_n 1, 1) := by decide +kernel
theorem dX4_canBe_13 : decode cX4_canBe 13 = .ok (.bipush 99, 2) := by decide +kernel
theorem dX4_canBe_15 : decode cX4_canBe 15 = .ok (.if_icmp .gt 7, 3) := by decide +kernel
theorem dX4_canBe_18 : decode cX4_canBe 18 = .ok (.iconst 1, 1) := by decide +kernel
theorem dX4_canBe_19 : decode cX4_canBe 19 = .ok (.goto 4, 3) := by decide +kernel
theorem dX4_canBe_22 : decode cX4_canBe 22 = .ok (.iconst 0, 1) := by decide +kernel
theorem dX4_canBe_23 : decode cX4_canBe 23 = .ok (.ireturn, 1) := by decide +kernel
theorem dX4_canBe_24 : decode cX4_canBe 24 = .ok (.iload_n 1, 1) := by decide +kernel
theorem dX4_canBe_25 : decode cX4_canBe 25 = .ok (.iconst 1, 1) := by decide +kernel
theorem dX4_canBe_26 : decode cX4_canBe 26 = .ok (.if_icmp .lt 7, 3) := by decide +kernel
theorem dX4_canBe_29 : decode cX4_canBe 29 = .ok (.iconst 1, 1) := by decide +kernel
theorem dX4_canBe_30 : decode cX4_canBe 30 = .ok (.goto 4, 3) := by decide +kernel
theorem dX4_canBe_33 : decode cX4_canBe 33 = .ok (.iconst 0, 1) := by decide +kernel
theorem dX4_canBe_34 : decode cX4_canBe 34 = .ok (.ireturn, 1) := by decide +kernel
theorem dX5_init_0 : decode cX5_init 0 = .ok (.aload_n 0, 1) := by decide +kernel
theorem dX5_init_1 : decode cX5_init 1 = .ok (.invokespecial 3, 3) := by decide +kernel
theorem dX5_init_4 : decode cX5_init 4 = .ok (.aload_n 0, 1) := by decide +kernel
theorem dX5_init_5 : decode cX5_init 5 = .ok (.bipush 62, 2) := by decide +kernel
theorem dX5_init_7 : decode cX5_init 7 = .ok (.newarray .int, 2) := by decide +kernel
theorem dX5_init_9 : decode cX5_init 9 = .ok (.putfield 11, 3) := by decide +kernel
theorem dX5_init_12 : decode cX5_init 12 = .ok (.aload_n 0, 1) := by decide +kernel
theorem dX5_init_13 : decode cX5_init 13 = .ok (.bipush 62, 2) := by decide +kernel
theorem dX5_init_15 : decode cX5_init 15 = .ok (.newarray .int, 2) := by decide +kernel
theorem dX5_init_17 : decode cX5_init 17 = .ok (.putfield 15, 3) := by decide +kernel
theorem dX5_init_20 : decode cX5_init 20 = .ok (.aload_n 0, 1) := by decide +kernel
theorem dX5_init_21 : decode cX5_init 21 = .ok (.bipush 62, 2) := by decide +kernel
theorem dX5_init_23 : decode cX5_init 23 = .ok (.newarray .int, 2) := by decide +kernel
theorem dX5_init_25 : decode cX5_init 25 = .ok (.putfield 18, 3) := by decide +kernel
theorem dX5_init_28 : decode cX5_init 28 = .ok (.aload_n 0, 1) := by decide +kernel
theorem dX5_init_29 : decode cX5_init 29 = .ok (.bipush 62, 2) := by decide +kernel
theorem dX5_init_31 : decode cX5_init 31 = .ok (.newarray .int, 2) := by decide +kernel
theorem dX5_init_33 : decode cX5_init 33 = .ok (.putfield 21, 3) := by decide +kernel
theorem dX5_init_36 : decode cX5_init 36 = .ok (.aload_n 0, 1) := by decide +kernel
theorem dX5_init_37 : decode cX5_init 37 = .ok (.bipush 62, 2) := by decide +kernel
theorem dX5_init_39 : decode cX5_init 39 = .ok (.newarray .long, 2) := by decide +kernel
theorem dX5_init_41 : decode cX5_init 41 = .ok (.putfield 24, 3) := by decide +kernel
theorem dX5_init_44 : decode cX5_init 44 = .ok (.aload_n 0, 1) := by decide +kernel
theorem dX5_init_45 : decode cX5_init 45 = .ok (.iconst 0, 1) := by decide +kernel
theorem dX5_init_46 : decode cX5_init 46 = .ok (.putfield 28, 3) := by decide +kernel
theorem dX5_init_49 : decode cX5_init 49 = .ok (.aload_n 0, 1) := by decide +kernel
theorem dX5_init_50 : decode cX5_init 50 = .ok (.iconst 0, 1) := by decide +kernel
theorem dX5_init_51 : decode cX5_init 51 = .ok (.putfield 32, 3) := by decide +kernel
theorem dX5_init_54 : decode cX5_init 54 = .ok (.aload_n 0, 1) := by decide +kernel
theorem dX5_init_55 : decode cX5_init 55 = .ok (.iconst 0, 1) := by decide +kernel
theorem dX5_init_56 : decode cX5_init 56 = .ok (.putfield 35, 3) := by decide +kernel
theorem dX5_init_59 : decode cX5_init 59 = .ok (.aload_n 0, 1) := by decide +kernel
theorem dX5_init_60 : decode cX5_init 60 = .ok (.sipush 256, 3) := by decide +kernel
theorem dX5_init_63 : decode cX5_init 63 = .ok (.newarray .long, 2) := by decide +kernel
theorem dX5_init_65 : decode cX5_init 65 = .ok (.putfield 38, 3) := by decide +kernel
theorem dX5_init_68 : decode cX5_init 68 = .ok (.aload_n 0, 1) := by decide +kernel
theorem dX5_init_69 : decode cX5_init 69 = .ok (.aload_n 1, 1) := by decide +kernel
theorem dX5_init_70 : decode cX5_init 70 = .ok (.putfield 41, 3) := by decide +kernel
theorem dX5_init_73 : decode cX5_init 73 = .ok (.aload_n 0, 1) := by decide +kernel
theorem dX5_init_74 : decode cX5_init 74 = .ok (.aload_n 2, 1) := by decide +kernel
theorem dX5_init_75 : decode cX5_init 75 = .ok (.putfield 45, 3) := by decide +kernel
theorem dX5_init_78 : decode cX5_init 78 = .ok (.aload_n 0, 1) := by decide +kernel
theorem dX5_init_79 : decode cX5_init 79 = .ok (.aload_n 3, 1) := by decide +kernel
theorem dX5_init_80 : decode cX5_init 80 = .ok (.putfield 49, 3) := by decide +kernel
theorem dX5_init_83 : decode cX5_init 83 = .ok (.return_, 1) := by decide +kernel
theorem dX5_findPrices_0 : decode cX5_findPrices 0 = .ok (.aload_n 0, 1) := by decide +kernel
theorem dX5_findPrices_1 : decode cX5_findPrices 1 = .ok (.invokevirtual 53, 3) := by decide +kernel
theorem dX5_findPrices_4 : decode cX5_findPrices 4 = .ok (.aload_n 0, 1) := by decide +kernel
theorem dX5_findPrices_5 : decode cX5_findPrices 5 = .ok (.invokevirtual 56, 3) := by decide +kernel
theorem dX5_findPrices_8 : decode cX5_findPrices 8 = .ok (.aload_n 0, 1) := by decide +kernel
theorem dX5_findPrices_9 : decode cX5_findPrices 9 = .ok (.getfield 28, 3) := by decide +kernel
theorem dX5_findPrices_12 : decode cX5_findPrices 12 = .ok (.iconst 1, 1) := by decide +kernel
theorem dX5_findPrices_13 : decode cX5_findPrices 13 = .ok (.isub, 1) := by decide +kernel
theorem dX5_findPrices_14 : decode cX5_findPrices 14 = .ok (.istore_n 1, 1) := by decide +kernel
theorem dX5_findPrices_15 : decode cX5_findPrices 15 = .ok (.iload_n 1, 1) := by decide +kernel
theorem dX5_findPrices_16 : decode cX5_findPrices 16 = .ok (.ifCond .lt 14, 3) := by decide +kernel
theorem dX5_findPrices_19 : decode cX5_findPrices 19 = .ok (.aload_n 0, 1) := by decide +kernel
theorem dX5_findPrices_20 : decode cX5_findPrices 20 = .ok (.iload_n 1, 1) := by decide +kernel
theorem dX5_findPrices_21 : decode cX5_findPrices 21 = .ok (.invokevirtual 59, 3) := by decide +kernel
theorem dX5_findPrices_24 : decode cX5_findPrices 24 = .ok (.iinc 1 (-1), 3) := by decide +kernel
theorem dX5_findPrices_27 : decode cX5_findPrices 27 = .ok (.goto (-12), 3) := by decide +kernel
theorem dX5_findPrices_30 : decode cX5_findPrices 30 = .ok (.return_, 1) := by decide +kernel
theorem dX5_findMarks_0 : decode cX5_findMarks 0 = .ok (.iconst 0, 1) := by decide +kernel
theorem dX5_findMarks_1 : decode cX5_findMarks 1 = .ok (.istore_n 1, 1) := by decide +kernel
theorem dX5_findMarks_2 : decode cX5_findMarks 2 = .ok (.aload_n 0, 1) := by decide +kernel
theorem dX5_findMarks_3 : decode cX5_findMarks 3 = .ok (.iconst 0, 1) := by decide +kernel
theorem dX5_findMarks_4 : decode cX5_findMarks 4 = .ok (.putfield 28, 3) := by decide +kernel
theorem dX5_findMarks_7 : decode cX5_findMarks 7 = .ok (.aload_n 0, 1) := by decide +kernel
theorem dX5_findMarks_8 : decode cX5_findMarks 8 = .ok (.iconst 0, 1) := by decide +kernel
theorem dX5_findMarks_9 : decode cX5_findMarks 9 = .ok (.iconst 0, 1) := by decide +kernel
theorem dX5_findMarks_10 : decode cX5_findMarks 10 = .ok (.iconst 0, 1) := by decide +kernel
theorem dX5_findMarks_11 : decode cX5_findMarks 11 = .ok (.iconst 0, 1) := by decide +kernel
theorem dX5_findMarks_12 : decode cX5_findMarks 12 = .ok (.lconst 0, 1) := by decide +kernel
theorem dX5_findMarks_13 : decode cX5_findMarks 13 = .ok (.invokevirtual 65, 3) := by decide +kernel
theorem dX5_findMarks_16 : decode cX5_findMarks 16 = .ok (.iconst 0, 1) := by decide +kernel
theorem dX5_findMarks_17 : decode cX5_findMarks 17 = .ok (.istore_n 2, 1) := by decide +kernel
theorem dX5_findMarks_18 : decode cX5_findMarks 18 = .ok (.iload_n 2, 1) := by decide +kernel
theorem dX5_findMarks_19 : decode cX5_findMarks 19 = .ok (.aload_n 0, 1) := by decide +kernel
theorem dX5_findMarks_20 : decode cX5_findMarks 20 = .ok (.getfield 45, 3) := by decide +kernel
theorem dX5_findMarks_23 : decode cX5_findMarks 23 = .ok (.getfield 69, 3) := by decide +kernel
theorem dX5_findMarks_26 : decode cX5_findMarks 26 = .ok (.if_icmp .ge 100, 3) := by decide +kernel
theorem dX5_findMarks_29 : decode cX5_findMarks 29 = .ok (.aload_n 0, 1) := by decide +kernel
theorem dX5_findMarks_30 : decode cX5_findMarks 30 = .ok (.getfield 45, 3) := by decide +kernel
theorem dX5_findMarks_33 : decode cX5_findMarks 33 = .ok (.iload_n 2, 1) := by decide +kernel
theorem dX5_findMarks_34 : decode cX5_findMarks 34 = .ok (.invokevirtual 74, 3) := by decide +kernel
theorem dX5_findMarks_37 : decode cX5_findMarks 37 = .ok (.istore_n 3, 1) := by decide +kernel
theorem dX5_findMarks_38 : decode cX5_findMarks 38 = .ok (.iload_n 3, 1) := by decide +kernel
theorem dX5_findMarks_39 : decode cX5_findMarks 39 = .ok (.aload_n 0, 1) := by decide +kernel
theorem dX5_findMarks_40 : decode cX5_findMarks 40 = .ok (.getfield 41, 3) := by decide +kernel
theorem dX5_findMarks_43 : decode cX5_findMarks 43 = .ok (.getfield 78, 3) := by decide +kernel
theorem dX5_findMarks_46 : decode cX5_findMarks 46 = .ok (.bipush 7, 2) := by decide +kernel
theorem dX5_findMarks_48 : decode cX5_findMarks 48 = .ok (.iaload, 1) := by decide +kernel
theorem dX5_findMarks_49 : decode cX5_findMarks 49 = .ok (.if_icmp .lt 23, 3) := by decide +kernel
theorem dX5_findMarks_52 : decode cX5_findMarks 52 = .ok (.aload_n 0, 1) := by decide +kernel
theorem dX5_findMarks_53 : decode cX5_findMarks 53 = .ok (.iload_n 2, 1) := by decide +kernel
theorem dX5_findMarks_54 : decode cX5_findMarks 54 = .ok (.aload_n 0, 1) := by decide +kernel
theorem dX5_findMarks_55 : decode cX5_findMarks 55 = .ok (.getfield 41, 3) := by decide +kernel
theorem dX5_findMarks_58 : decode cX5_findMarks 58 = .ok (.getfield 78, 3) := by decide +kernel
theorem dX5_findMarks_61 : decode cX5_findMarks 61 = .ok (.bipush 7, 2) := by decide +kernel
theorem dX5_findMarks_63 : decode cX5_findMarks 63 = .ok (.iaload, 1) := by decide +kernel
theorem dX5_findMarks_64 : decode cX5_findMarks 64 = .ok (.iconst 1, 1) := by decide +kernel
theorem dX5_findMarks_65 : decode cX5_findMarks 65 = .ok (.lconst 0, 1) := by decide +kernel
theorem dX5_findMarks_66 : decode cX5_findMarks 66 = .ok (.invokevirtual 83, 3) := by decide +kernel
theorem dX5_findMarks_69 : decode cX5_findMarks 69 = .ok (.goto 51, 3) := by decide +kernel
theorem dX5_findMarks_72 : decode cX5_findMarks 72 = .ok (.iload_n 3, 1) := by decide +kernel
theorem dX5_findMarks_73 : decode cX5_findMarks 73 = .ok (.aload_n 0, 1) := by decide +kernel
theorem dX5_findMarks_74 : decode cX5_findMarks 74 = .ok (.getfield 41, 3) := by decide +kernel
theorem dX5_findMarks_77 : decode cX5_findMarks 77 = .ok (.getfield 78, 3) := by decide +kernel
theorem dX5_findMarks_80 : decode cX5_findMarks 80 = .ok (.bipush 8, 2) := by decide +kernel
theorem dX5_findMarks_82 : decode cX5_findMarks 82 = .ok (.iaload, 1) := by decide +kernel
theorem dX5_findMarks_83 : decode cX5_findMarks 83 = .ok (.if_icmp .lt 37, 3) := by decide +kernel
theorem dX5_findMarks_86 : decode cX5_findMarks 86 = .ok (.iload_n 1, 1) := by decide +kernel
theorem dX5_findMarks_87 : decode cX5_findMarks 87 = .ok (.bipush 12, 2) := by decide +kernel
theorem dX5_findMarks_89 : decode cX5_findMarks 89 = .ok (.if_icmp .ge 31, 3) := by decide +kernel
theorem dX5_findMarks_92 : decode cX5_findMarks 92 = .ok (.aload_n 0, 1) := by decide +kernel
theorem dX5_findMarks_93 : decode cX5_findMarks 93 = .ok (.iload_n 2, 1) := by decide +kernel
theorem dX5_findMarks_94 : decode cX5_findMarks 94 = .ok (.aload_n 0, 1) := by decide +kernel
theorem dX5_findMarks_95 : decode cX5_findMarks 95 = .ok (.getfield 41, 3) := by decide +kernel
theorem dX5_findMarks_98 : decode cX5_findMarks 98 = .ok (.getfield 78, 3) := by decide +kernel
theorem dX5_findMarks_101 : decode cX5_findMarks 101 = .ok (.bipush 8, 2) := by decide +kernel
theorem dX5_findMarks_103 : decode cX5_findMarks 103 = .ok (.iaload, 1) := by decide +kernel
theorem dX5_findMarks_104 : decode cX5_findMarks 104 = .ok (.iconst 2, 1) := by decide +kernel
theorem dX5_findMarks_105 : decode cX5_findMarks 105 = .ok (.ldc2_w 87, 3) := by decide +kernel
theorem dX5_findMarks_108 : decode cX5_findMarks 108 = .ok (.ldc2_w 89, 3) := by decide +kernel
theorem dX5_findMarks_111 : decode cX5_findMarks 111 = .ok (.iload_n 1, 1) := by decide +kernel
theorem dX5_findMarks_112 : decode cX5_findMarks 112 = .ok (.lshr, 1) := by decide +kernel
theorem dX5_findMarks_113 : decode cX5_findMarks 113 = .ok (.lsub, 1) := by decide +kernel
theorem dX5_findMarks_114 : decode cX5_findMarks 114 = .ok (.invokevirtual 83, 3) := by decide +kernel
theorem dX5_findMarks_117 : decode cX5_findMarks 117 = .ok (.iinc 1 1, 3) := by decide +kernel
theorem dX5_findMarks_120 : decode cX5_findMarks 120 = .ok (.iinc 2 1, 3) := by decide +kernel
theorem dX5_findMarks_123 : decode cX5_findMarks 123 = .ok (.goto (-105), 3) := by decide +kernel
theorem dX5_findMarks_126 : decode cX5_findMarks 126 = .ok (.aload_n 0, 1) := by decide +kernel
theorem dX5_findMarks_127 : decode cX5_findMarks 127 = .ok (.aload_n 0, 1) := by decide +kernel
theorem dX5_findMarks_128 : decode cX5_findMarks 128 = .ok (.getfield 45, 3) := by decide +kernel
theorem dX5_findMarks_131 : decode cX5_findMarks 131 = .ok (.getfield 91, 3) := by decide +kernel
theorem dX5_findMarks_134 : decode cX5_findMarks 134 = .ok (.aload_n 0, 1) := by decide +kernel
theorem dX5_findMarks_135 : decode cX5_findMarks 135 = .ok (.getfield 45, 3) := by decide +kernel
theorem dX5_findMarks_138 : decode cX5_findMarks 138 = .ok (.getfield 94, 3) := by decide +kernel
theorem dX5_findMarks_141 : decode cX5_findMarks 141 = .ok (.aload_n 0, 1) := by decide +kernel
theorem dX5_findMarks_142 : decode cX5_findMarks 142 = .ok (.getfield 45, 3) := by decide +kernel
theorem dX5_findMarks_145 : decode cX5_findMarks 145 = .ok (.getfield 91, 3) := by decide +kernel
theorem dX5_findMarks_148 : decode cX5_findMarks 148 = .ok (.iconst 0, 1) := by decide +kernel
theorem dX5_findMarks_149 : decode cX5_findMarks 149 = .ok (.lconst 0, 1) := by decide +kernel
theorem dX5_findMarks_150 : decode cX5_findMarks 150 = .ok (.invokevirtual 65, 3) := by decide +kernel
theorem dX5_findMarks_153 : decode cX5_findMarks 153 = .ok (.aload_n 0, 1) := by decide +kernel
theorem dX5_findMarks_154 : decode cX5_findMarks 154 = .ok (.aload_n 0, 1) := by decide +kernel
theorem dX5_findMarks_155 : decode cX5_findMarks 155 = .ok (.getfield 41, 3) := by decide +kernel
theorem dX5_findMarks_158 : decode cX5_findMarks 158 = .ok (.getfield 78, 3) := by decide +kernel
theorem dX5_findMarks_161 : decode cX5_findMarks 161 = .ok (.bipush 9, 2) := by decide +kernel
theorem dX5_findMarks_163 : decode cX5_findMarks 163 = .ok (.iaload, 1) := by decide +kernel
theorem dX5_findMarks_164 : decode cX5_findMarks 164 = .ok (.iload_n 1, 1) := by decide +kernel
theorem dX5_findMarks_165 : decode cX5_findMarks 165 = .ok (.invokestatic 96, 3) := by decide +kernel
theorem dX5_findMarks_168 : decode cX5_findMarks 168 = .ok (.putfield 32, 3) := by decide +kernel
theorem dX5_findMarks_171 : decode cX5_findMarks 171 = .ok (.aload_n 0, 1) := by decide +kernel
theorem dX5_findMarks_172 : decode cX5_findMarks 172 = .ok (.aload_n 0, 1) := by decide +kernel
theorem dX5_findMarks_173 : decode cX5_findMarks 173 = .ok (.getfield 41, 3) := by decide +kernel
theorem dX5_findMarks_176 : decode cX5_findMarks 176 = .ok (.getfield 78, 3) := by decide +kernel
theorem dX5_findMarks_179 : decode cX5_findMarks 179 = .ok (.bipush 6, 2) := by decide +kernel
theorem dX5_findMarks_181 : decode cX5_findMarks 181 = .ok (.iaload, 1) := by decide +kernel
theorem dX5_findMarks_182 : decode cX5_findMarks 182 = .ok (.aload_n 0, 1) := by decide +kernel
theorem dX5_findMarks_183 : decode cX5_findMarks 183 = .ok (.getfield 28, 3) := by decide +kernel
theorem dX5_findMarks_186 : decode cX5_findMarks 186 = .ok (.invokestatic 96, 3) := by decide +kernel
theorem dX5_findMarks_189 : decode cX5_findMarks 189 = .ok (.putfield 35, 3) := by decide +kernel
theorem dX5_findMarks_192 : decode cX5_findMarks 192 = .ok (.return_, 1) := by decide +kernel
theorem dX5_addRest_0 : decode cX5_addRest 0 = .ok (.aload_n 0, 1) := by decide +kernel
theorem dX5_addRest_1 : decode cX5_addRest 1 = .ok (.aload_n 0, 1) := by decide +kernel
theorem dX5_addRest_2 : decode cX5_addRest 2 = .ok (.getfield 45, 3) := by decide +kernel
theorem dX5_addRest_5 : decode cX5_addRest 5 = .ok (.getfield 102, 3) := by decide +kernel
theorem dX5_addRest_8 : decode cX5_addRest 8 = .ok (.iload_n 1, 1) := by decide +kernel
theorem dX5_addRest_9 : decode cX5_addRest 9 = .ok (.iaload, 1) := by decide +kernel
theorem dX5_addRest_10 : decode cX5_addRest 10 = .ok (.aload_n 0, 1) := by decide +kernel
theorem dX5_addRest_11 : decode cX5_addRest 11 = .ok (.getfield 45, 3) := by decide +kernel
theorem dX5_addRest_14 : decode cX5_addRest 14 = .ok (.getfield 105, 3) := by decide +kernel
theorem dX5_addRest_17 : decode cX5_addRest 17 = .ok (.iload_n 1, 1) := by decide +kernel
theorem dX5_addRest_18 : decode cX5_addRest 18 = .ok (.iaload, 1) := by decide +kernel
theorem dX5_addRest_19 : decode cX5_addRest 19 = .ok (.aload_n 0, 1) := by decide +kernel
theorem dX5_addRest_20 : decode cX5_addRest 20 = .ok (.getfield 45, 3) := by decide +kernel
theorem dX5_addRest_23 : decode cX5_addRest 23 = .ok (.getfield 108, 3) := by decide +kernel
theorem dX5_addRest_26 : decode cX5_addRest 26 = .ok (.iload_n 1, 1) := by decide +kernel
theorem dX5_addRest_27 : decode cX5_addRest 27 = .ok (.iaload, 1) := by decide +kernel
theorem dX5_addRest_28 : decode cX5_addRest 28 = .ok (.iload_n 2, 1) := by decide +kernel
theorem dX5_addRest_29 : decode cX5_addRest 29 = .ok (.iadd, 1) := by decide +kernel
theorem dX5_addRest_30 : decode cX5_addRest 30 = .ok (.iload_n 3, 1) := by decide +kernel
theorem dX5_addRest_31 : decode cX5_addRest 31 = .ok (.lload 4, 2) := by decide +kernel
theorem dX5_addRest_33 : decode cX5_addRest 33 = .ok (.invokevirtual 65, 3) := by decide +kernel
theorem dX5_addRest_36 : decode cX5_addRest 36 = .ok (.return_, 1) := by decide +kernel
theorem dX5_addMark_0 : decode cX5_addMark 0 = .ok (.aload_n 0, 1) := by decide +kernel
theorem dX5_addMark_1 : decode cX5_addMark 1 = .ok (.getfield 28, 3) := by decide +kernel
theorem dX5_addMark_4 : decode cX5_addMark 4 = .ok (.bipush 62, 2) := by decide +kernel
theorem dX5_addMark_6 : decode cX5_addMark 6 = .ok (.if_icmp .ge 65, 3) := by decide +kernel
theorem dX5_addMark_9 : decode cX5_addMark 9 = .ok (.aload_n 0, 1) := by decide +kernel
theorem dX5_addMark_10 : decode cX5_addMark 10 = .ok (.getfield 11, 3) := by decide +kernel
theorem dX5_addMark_13 : decode cX5_addMark 13 = .ok (.aload_n 0, 1) := by decide +kernel
theorem dX5_addMark_14 : decode cX5_addMark 14 = .ok (.getfield 28, 3) := by decide +kernel
theorem dX5_addMark_17 : decode cX5_addMark 17 = .ok (.iload_n 1, 1) := by decide +kernel
theorem dX5_addMark_18 : decode cX5_addMark 18 = .ok (.iastore, 1) := by decide +kernel
theorem dX5_addMark_19 : decode cX5_addMark 19 = .ok (.aload_n 0, 1) := by decide +kernel
theorem dX5_addMark_20 : decode cX5_addMark 20 = .ok (.getfield 15, 3) := by decide +kernel
theorem dX5_addMark_23 : decode cX5_addMark 23 = .ok (.aload_n 0, 1) := by decide +kernel
theorem dX5_addMark_24 : decode cX5_addMark 24 = .ok (.getfield 28, 3) := by decide +kernel
theorem dX5_addMark_27 : decode cX5_addMark 27 = .ok (.iload_n 2, 1) := by decide +kernel
theorem dX5_addMark_28 : decode cX5_addMark 28 = .ok (.iastore, 1) := by decide +kernel
theorem dX5_addMark_29 : decode cX5_addMark 29 = .ok (.aload_n 0, 1) := by decide +kernel
theorem dX5_addMark_30 : decode cX5_addMark 30 = .ok (.getfield 18, 3) := by decide +kernel
theorem dX5_addMark_33 : decode cX5_addMark 33 = .ok (.aload_n 0, 1) := by decide +kernel
theorem dX5_addMark_34 : decode cX5_addMark 34 = .ok (.getfield 28, 3) := by decide +kernel
theorem dX5_addMark_37 : decode cX5_addMark 37 = .ok (.iload_n 3, 1) := by decide +kernel
theorem dX5_addMark_38 : decode cX5_addMark 38 = .ok (.iastore, 1) := by decide +kernel
theorem dX5_addMark_39 : decode cX5_addMark 39 = .ok (.aload_n 0, 1) := by decide +kernel
theorem dX5_addMark_40 : decode cX5_addMark 40 = .ok (.getfield 21, 3) := by decide +kernel
theorem dX5_addMark_43 : decode cX5_addMark 43 = .ok (.aload_n 0, 1) := by decide +kernel
theorem dX5_addMark_44 : decode cX5_addMark 44 = .ok (.getfield 28, 3) := by decide +kernel
theorem dX5_addMark_47 : decode cX5_addMark 47 = .ok (.iload 4, 2) := by decide +kernel
theorem dX5_addMark_49 : decode cX5_addMark 49 = .ok (.iastore, 1) := by decide +kernel
theorem dX5_addMark_50 : decode cX5_addMark 50 = .ok (.aload_n 0, 1) := by decide +kernel
theorem dX5_addMark_51 : decode cX5_addMark 51 = .ok (.getfield 24, 3) := by decide +kernel
theorem dX5_addMark_54 : decode cX5_addMark 54 = .ok (.aload_n 0, 1) := by decide +kernel
theorem dX5_addMark_55 : decode cX5_addMark 55 = .ok (.getfield 28, 3) := by decide +kernel
theorem dX5_addMark_58 : decode cX5_addMark 58 = .ok (.lload 5, 2) := by decide +kernel
theorem dX5_addMark_60 : decode cX5_addMark 60 = .ok (.lastore, 1) := by decide +kernel
theorem dX5_addMark_61 : decode cX5_addMark 61 = .ok (.aload_n 0, 1) := by decide +kernel
theorem dX5_addMark_62 : decode cX5_addMark 62 = .ok (.dup, 1) := by decide +kernel
theorem dX5_addMark_63 : decode cX5_addMark 63 = .ok (.getfield 28, 3) := by decide +kernel
theorem dX5_addMark_66 : decode cX5_addMark 66 = .ok (.iconst 1, 1) := by decide +kernel
theorem dX5_addMark_67 : decode cX5_addMark 67 = .ok (.iadd, 1) := by decide +kernel
theorem dX5_addMark_68 : decode cX5_addMark 68 = .ok (.putfield 28, 3) := by decide +kernel
theorem dX5_addMark_71 : decode cX5_addMark 71 = .ok (.return_, 1) := by decide +kernel
theorem dX5_makeRoom_0 : decode cX5_makeRoom 0 = .ok (.aload_n 0, 1) := by decide +kernel
theorem dX5_makeRoom_1 : decode cX5_makeRoom 1 = .ok (.aload_n 0, 1) := by decide +kernel
theorem dX5_makeRoom_2 : decode cX5_makeRoom 2 = .ok (.getfield 28, 3) := by decide +kernel
theorem dX5_makeRoom_5 : decode cX5_makeRoom 5 = .ok (.iconst 0, 1) := by decide +kernel
theorem dX5_makeRoom_6 : decode cX5_makeRoom 6 = .ok (.iconst 0, 1) := by decide +kernel
theorem dX5_makeRoom_7 : decode cX5_makeRoom 7 = .ok (.invokevirtual 111, 3) := by decide +kernel
theorem dX5_makeRoom_10 : decode cX5_makeRoom 10 = .ok (.istore_n 1, 1) := by decide +kernel
theorem dX5_makeRoom_11 : decode cX5_makeRoom 11 = .ok (.iload_n 1, 1) := by decide +kernel
theorem dX5_makeRoom_12 : decode cX5_makeRoom 12 = .ok (.aload_n 0, 1) := by decide +kernel
theorem dX5_makeRoom_13 : decode cX5_makeRoom 13 = .ok (.getfield 38, 3) := by decide +kernel
theorem dX5_makeRoom_16 : decode cX5_makeRoom 16 = .ok (.arraylength, 1) := by decide +kernel
theorem dX5_makeRoom_17 : decode cX5_makeRoom 17 = .ok (.if_icmp .le 20, 3) := by decide +kernel
theorem dX5_makeRoom_20 : decode cX5_makeRoom 20 = .ok (.aload_n 0, 1) := by decide +kernel
theorem dX5_makeRoom_21 : decode cX5_makeRoom 21 = .ok (.iload_n 1, 1) := by decide +kernel
theorem dX5_makeRoom_22 : decode cX5_makeRoom 22 = .ok (.iconst 2, 1) := by decide +kernel
theorem dX5_makeRoom_23 : decode cX5_makeRoom 23 = .ok (.aload_n 0, 1) := by decide +kernel
theorem dX5_makeRoom_24 : decode cX5_makeRoom 24 = .ok (.getfield 38, 3) := by decide +kernel
theorem dX5_makeRoom_27 : decode cX5_makeRoom 27 = .ok (.arraylength, 1) := by decide +kernel
theorem dX5_makeRoom_28 : decode cX5_makeRoom 28 = .ok (.imul, 1) := by decide +kernel
theorem dX5_makeRoom_29 : decode cX5_makeRoom 29 = .ok (.invokestatic 115, 3) := by decide +kernel
theorem dX5_makeRoom_32 : decode cX5_makeRoom 32 = .ok (.newarray .long, 2) := by decide +kernel
theorem dX5_makeRoom_34 : decode cX5_makeRoom 34 = .ok (.putfield 38, 3) := by decide +kernel
theorem dX5_makeRoom_37 : decode cX5_makeRoom 37 = .ok (.return_, 1) := by decide +kernel
theorem dX5_placeOf_0 : decode cX5_placeOf 0 = .ok (.iload_n 1, 1) := by decide +kernel
theorem dX5_placeOf_1 : decode cX5_placeOf 1 = .ok (.aload_n 0, 1) := by decide +kernel
theorem dX5_placeOf_2 : decode cX5_placeOf 2 = .ok (.getfield 32, 3) := by decide +kernel
theorem dX5_placeOf_5 : decode cX5_placeOf 5 = .ok (.iconst 1, 1) := by decide +kernel
theorem dX5_placeOf_6 : decode cX5_placeOf 6 = .ok (.iadd, 1) := by decide +kernel
theorem dX5_placeOf_7 : decode cX5_placeOf 7 = .ok (.imul, 1) := by decide +kernel
theorem dX5_placeOf_8 : decode cX5_placeOf 8 = .ok (.iload_n 2, 1) := by decide +kernel
theorem dX5_placeOf_9 : decode cX5_placeOf 9 = .ok (.iadd, 1) := by decide +kernel
theorem dX5_placeOf_10 : decode cX5_placeOf 10 = .ok (.aload_n 0, 1) := by decide +kernel
theorem dX5_placeOf_11 : decode cX5_placeOf 11 = .ok (.getfield 35, 3) := by decide +kernel
theorem dX5_placeOf_14 : decode cX5_placeOf 14 = .ok (.iconst 1, 1) := by decide +kernel
theorem dX5_placeOf_15 : decode cX5_placeOf 15 = .ok (.iadd, 1) := by decide +kernel
theorem dX5_placeOf_16 : decode cX5_placeOf 16 = .ok (.imul, 1) := by decide +kernel
theorem dX5_placeOf_17 : decode cX5_placeOf 17 = .ok (.iload_n 3, 1) := by decide +kernel
theorem dX5_placeOf_18 : decode cX5_placeOf 18 = .ok (.iadd, 1) := by decide +kernel
theorem dX5_placeOf_19 : decode cX5_placeOf 19 = .ok (.ireturn, 1) := by decide +kernel
theorem dX5_findLeast_0 : decode cX5_findLeast 0 = .ok (.aload_n 0, 1) := by decide +kernel
theorem dX5_findLeast_1 : decode cX5_findLeast 1 = .ok (.getfield 11, 3) := by decide +kernel
theorem dX5_findLeast_4 : decode cX5_findLeast 4 = .ok (.iload_n 1, 1) := by decide +kernel
theorem dX5_findLeast_5 : decode cX5_findLeast 5 = .ok (.iaload, 1) := by decide +kernel
theorem dX5_findLeast_6 : decode cX5_findLeast 6 = .ok (.aload_n 0, 1) := by decide +kernel
theorem dX5_findLeast_7 : decode cX5_findLeast 7 = .ok (.getfield 45, 3) := by decide +kernel
theorem dX5_findLeast_10 : decode cX5_findLeast 10 = .ok (.getfield 91, 3) := by decide +kernel
theorem dX5_findLeast_13 : decode cX5_findLeast 13 = .ok (.if_icmp .lt 7, 3) := by decide +kernel
theorem dX5_findLeast_16 : decode cX5_findLeast 16 = .ok (.iconst 1, 1) := by decide +kernel
theorem dX5_findLeast_17 : decode cX5_findLeast 17 = .ok (.goto 4, 3) := by decide +kernel
theorem dX5_findLeast_20 : decode cX5_findLeast 20 = .ok (.iconst 0, 1) := by decide +kernel
theorem dX5_findLeast_21 : decode cX5_findLeast 21 = .ok (.istore_n 2, 1) := by decide +kernel
theorem dX5_findLeast_22 : decode cX5_findLeast 22 = .ok (.aload_n 0, 1) := by decide +kernel
theorem dX5_findLeast_23 : decode cX5_findLeast 23 = .ok (.iload_n 1, 1) := by decide +kernel
theorem dX5_findLeast_24 : decode cX5_findLeast 24 = .ok (.iconst 1, 1) := by decide +kernel
theorem dX5_findLeast_25 : decode cX5_findLeast 25 = .ok (.iadd, 1) := by decide +kernel
theorem dX5_findLeast_26 : decode cX5_findLeast 26 = .ok (.iconst 0, 1) := by decide +kernel
theorem dX5_findLeast_27 : decode cX5_findLeast 27 = .ok (.iconst 0, 1) := by decide +kernel
theorem dX5_findLeast_28 : decode cX5_findLeast 28 = .ok (.invokevirtual 111, 3) := by decide +kernel
theorem dX5_findLeast_31 : decode cX5_findLeast 31 = .ok (.istore_n 3, 1) := by decide +kernel
theorem dX5_findLeast_32 : decode cX5_findLeast 32 = .ok (.aload_n 0, 1) := by decide +kernel
theorem dX5_findLeast_33 : decode cX5_findLeast 33 = .ok (.iload_n 1, 1) := by decide +kernel
theorem dX5_findLeast_34 : decode cX5_findLeast 34 = .ok (.iconst 0, 1) := by decide +kernel
theorem dX5_findLeast_35 : decode cX5_findLeast 35 = .ok (.iconst 0, 1) := by decide +kernel
theorem dX5_findLeast_36 : decode cX5_findLeast 36 = .ok (.invokevirtual 111, 3) := by decide +kernel
theorem dX5_findLeast_39 : decode cX5_findLeast 39 = .ok (.istore 4, 2) := by decide +kernel
theorem dX5_findLeast_41 : decode cX5_findLeast 41 = .ok (.iload 4, 2) := by decide +kernel
theorem dX5_findLeast_43 : decode cX5_findLeast 43 = .ok (.iload_n 3, 1) := by decide +kernel
theorem dX5_findLeast_44 : decode cX5_findLeast 44 = .ok (.if_icmp .ge 27, 3) := by decide +kernel
theorem dX5_findLeast_47 : decode cX5_findLeast 47 = .ok (.aload_n 0, 1) := by decide +kernel
theorem dX5_findLeast_48 : decode cX5_findLeast 48 = .ok (.getfield 38, 3) := by decide +kernel
theorem dX5_findLeast_51 : decode cX5_findLeast 51 = .ok (.iload 4, 2) := by decide +kernel
theorem dX5_findLeast_53 : decode cX5_findLeast 53 = .ok (.iload_n 2, 1) := by decide +kernel
theorem dX5_findLeast_54 : decode cX5_findLeast 54 = .ok (.ifCond .eq 7, 3) := by decide +kernel
theorem dX5_findLeast_57 : decode cX5_findLeast 57 = .ok (.lconst 0, 1) := by decide +kernel
theorem dX5_findLeast_58 : decode cX5_findLeast 58 = .ok (.goto 6, 3) := by decide +kernel
theorem dX5_findLeast_61 : decode cX5_findLeast 61 = .ok (.ldc2_w 118, 3) := by decide +kernel
theorem dX5_findLeast_64 : decode cX5_findLeast 64 = .ok (.lastore, 1) := by decide +kernel
theorem dX5_findLeast_65 : decode cX5_findLeast 65 = .ok (.iinc 4 1, 3) := by decide +kernel
theorem dX5_findLeast_68 : decode cX5_findLeast 68 = .ok (.goto (-27), 3) := by decide +kernel
theorem dX5_findLeast_71 : decode cX5_findLeast 71 = .ok (.iload_n 2, 1) := by decide +kernel
theorem dX5_findLeast_72 : decode cX5_findLeast 72 = .ok (.ifCond .eq 4, 3) := by decide +kernel
theorem dX5_findLeast_75 : decode cX5_findLeast 75 = .ok (.return_, 1) := by decide +kernel
theorem dX5_findLeast_76 : decode cX5_findLeast 76 = .ok (.aload_n 0, 1) := by decide +kernel
theorem dX5_findLeast_77 : decode cX5_findLeast 77 = .ok (.iload_n 1, 1) := by decide +kernel
theorem dX5_findLeast_78 : decode cX5_findLeast 78 = .ok (.invokevirtual 120, 3) := by decide +kernel
theorem dX5_findLeast_81 : decode cX5_findLeast 81 = .ok (.istore 4, 2) := by decide +kernel
theorem dX5_findLeast_83 : decode cX5_findLeast 83 = .ok (.iload_n 1, 1) := by decide +kernel
theorem dX5_findLeast_84 : decode cX5_findLeast 84 = .ok (.iconst 1, 1) := by decide +kernel
theorem dX5_findLeast_85 : decode cX5_findLeast 85 = .ok (.iadd, 1) := by decide +kernel
theorem dX5_findLeast_86 : decode cX5_findLeast 86 = .ok (.istore 5, 2) := by decide +kernel
theorem dX5_findLeast_88 : decode cX5_findLeast 88 = .ok (.iload 5, 2) := by decide +kernel
theorem dX5_findLeast_90 : decode cX5_findLeast 90 = .ok (.iload 4, 2) := by decide +kernel
theorem dX5_findLeast_92 : decode cX5_findLeast 92 = .ok (.if_icmp .gt 25, 3) := by decide +kernel
theorem dX5_findLeast_95 : decode cX5_findLeast 95 = .ok (.aload_n 0, 1) := by decide +kernel
theorem dX5_findLeast_96 : decode cX5_findLeast 96 = .ok (.iload_n 1, 1) := by decide +kernel
theorem dX5_findLeast_97 : decode cX5_findLeast 97 = .ok (.iload 5, 2) := by decide +kernel
theorem dX5_findLeast_99 : decode cX5_findLeast 99 = .ok (.iconst 0, 1) := by decide +kernel
theorem dX5_findLeast_100 : decode cX5_findLeast 100 = .ok (.invokevirtual 123, 3) := by decide +kernel
theorem dX5_findLeast_103 : decode cX5_findLeast 103 = .ok (.aload_n 0, 1) := by decide +kernel
theorem dX5_findLeast_104 : decode cX5_findLeast 104 = .ok (.iload_n 1, 1) := by decide +kernel
theorem dX5_findLeast_105 : decode cX5_findLeast 105 = .ok (.iload 5, 2) := by decide +kernel
theorem dX5_findLeast_107 : decode cX5_findLeast 107 = .ok (.iconst 1, 1) := by decide +kernel
theorem dX5_findLeast_108 : decode cX5_findLeast 108 = .ok (.invokevirtual 123, 3) := by decide +kernel
theorem dX5_findLeast_111 : decode cX5_findLeast 111 = .ok (.iinc 5 1, 3) := by decide +kernel
theorem dX5_findLeast_114 : decode cX5_findLeast 114 = .ok (.goto (-26), 3) := by decide +kernel
theorem dX5_findLeast_117 : decode cX5_findLeast 117 = .ok (.return_, 1) := by decide +kernel
theorem dX5_lastEnd_0 : decode cX5_lastEnd 0 = .ok (.iload_n 1, 1) := by decide +kernel
theorem dX5_lastEnd_1 : decode cX5_lastEnd 1 = .ok (.iconst 1, 1) := by decide +kernel
theorem dX5_lastEnd_2 : decode cX5_lastEnd 2 = .ok (.iadd, 1) := by decide +kernel
theorem dX5_lastEnd_3 : decode cX5_lastEnd 3 = .ok (.istore_n 2, 1) := by decide +kernel
theorem dX5_lastEnd_4 : decode cX5_lastEnd 4 = .ok (.iload_n 2, 1) := by decide +kernel
theorem dX5_lastEnd_5 : decode cX5_lastEnd 5 = .ok (.aload_n 0, 1) := by decide +kernel
theorem dX5_lastEnd_6 : decode cX5_lastEnd 6 = .ok (.getfield 28, 3) := by decide +kernel
theorem dX5_lastEnd_9 : decode cX5_lastEnd 9 = .ok (.iconst 1, 1) := by decide +kernel
theorem dX5_lastEnd_10 : decode cX5_lastEnd 10 = .ok (.isub, 1) := by decide +kernel
theorem dX5_lastEnd_11 : decode cX5_lastEnd 11 = .ok (.if_icmp .ge 19, 3) := by decide +kernel
theorem dX5_lastEnd_14 : decode cX5_lastEnd 14 = .ok (.aload_n 0, 1) := by decide +kernel
theorem dX5_lastEnd_15 : decode cX5_lastEnd 15 = .ok (.getfield 21, 3) := by decide +kernel
theorem dX5_lastEnd_18 : decode cX5_lastEnd 18 = .ok (.iload_n 2, 1) := by decide +kernel
theorem dX5_lastEnd_19 : decode cX5_lastEnd 19 = .ok (.iaload, 1) := by decide +kernel
theorem dX5_lastEnd_20 : decode cX5_lastEnd 20 = .ok (.iconst 2, 1) := by decide +kernel
theorem dX5_lastEnd_21 : decode cX5_lastEnd 21 = .ok (.if_icmp .ne 9, 3) := by decide +kernel
theorem dX5_lastEnd_24 : decode cX5_lastEnd 24 = .ok (.iinc 2 1, 3) := by decide +kernel
theorem dX5_lastEnd_27 : decode cX5_lastEnd 27 = .ok (.goto (-23), 3) := by decide +kernel
theorem dX5_lastEnd_30 : decode cX5_lastEnd 30 = .ok (.iload_n 2, 1) := by decide +kernel
theorem dX5_lastEnd_31 : decode cX5_lastEnd 31 = .ok (.aload_n 0, 1) := by decide +kernel
theorem dX5_lastEnd_32 : decode cX5_lastEnd 32 = .ok (.getfield 28, 3) := by decide +kernel
theorem dX5_lastEnd_35 : decode cX5_lastEnd 35 = .ok (.iconst 1, 1) := by decide +kernel
theorem dX5_lastEnd_36 : decode cX5_lastEnd 36 = .ok (.isub, 1) := by decide +kernel
theorem dX5_lastEnd_37 : decode cX5_lastEnd 37 = .ok (.invokestatic 96, 3) := by decide +kernel
theorem dX5_lastEnd_40 : decode cX5_lastEnd 40 = .ok (.ireturn, 1) := by decide +kernel
theorem dX5_offer_0 : decode cX5_offer 0 = .ok (.aload_n 0, 1) := by decide +kernel
theorem dX5_offer_1 : decode cX5_offer 1 = .ok (.iload_n 1, 1) := by decide +kernel
theorem dX5_offer_2 : decode cX5_offer 2 = .ok (.iload_n 2, 1) := by decide +kernel
theorem dX5_offer_3 : decode cX5_offer 3 = .ok (.iload_n 3, 1) := by decide +kernel
theorem dX5_offer_4 : decode cX5_offer 4 = .ok (.invokevirtual 127, 3) := by decide +kernel
theorem dX5_offer_7 : decode cX5_offer 7 = .ok (.lstore 4, 2) := by decide +kernel
theorem dX5_offer_9 : decode cX5_offer 9 = .ok (.iconst 0, 1) := by decide +kernel
theorem dX5_offer_10 : decode cX5_offer 10 = .ok (.istore 6, 2) := by decide +kernel
theorem dX5_offer_12 : decode cX5_offer 12 = .ok (.iload 6, 2) := by decide +kernel
theorem dX5_offer_14 : decode cX5_offer 14 = .ok (.aload_n 0, 1) := by decide +kernel
theorem dX5_offer_15 : decode cX5_offer 15 = .ok (.getfield 32, 3) := by decide +kernel
theorem dX5_offer_18 : decode cX5_offer 18 = .ok (.if_icmp .gt 89, 3) := by decide +kernel
theorem dX5_offer_21 : decode cX5_offer 21 = .ok (.aload_n 0, 1) := by decide +kernel
theorem dX5_offer_22 : decode cX5_offer 22 = .ok (.iload_n 1, 1) := by decide +kernel
theorem dX5_offer_23 : decode cX5_offer 23 = .ok (.iload_n 2, 1) := by decide +kernel
theorem dX5_offer_24 : decode cX5_offer 24 = .ok (.iload 6, 2) := by decide +kernel
theorem dX5_offer_26 : decode cX5_offer 26 = .ok (.invokevirtual 131, 3) := by decide +kernel
theorem dX5_offer_29 : decode cX5_offer 29 = .ok (.istore 7, 2) := by decide +kernel
theorem dX5_offer_31 : decode cX5_offer 31 = .ok (.iconst 0, 1) := by decide +kernel
theorem dX5_offer_32 : decode cX5_offer 32 = .ok (.istore 8, 2) := by decide +kernel
theorem dX5_offer_34 : decode cX5_offer 34 = .ok (.iload 8, 2) := by decide +kernel
theorem dX5_offer_36 : decode cX5_offer 36 = .ok (.aload_n 0, 1) := by decide +kernel
theorem dX5_offer_37 : decode cX5_offer 37 = .ok (.getfield 35, 3) := by decide +kernel
theorem dX5_offer_40 : decode cX5_offer 40 = .ok (.if_icmp .gt 61, 3) := by decide +kernel
theorem dX5_offer_43 : decode cX5_offer 43 = .ok (.aload_n 0, 1) := by decide +kernel
theorem dX5_offer_44 : decode cX5_offer 44 = .ok (.iload_n 1, 1) := by decide +kernel
theorem dX5_offer_45 : decode cX5_offer 45 = .ok (.iload 6, 2) := by decide +kernel
theorem dX5_offer_47 : decode cX5_offer 47 = .ok (.iload 8, 2) := by decide +kernel
theorem dX5_offer_49 : decode cX5_offer 49 = .ok (.invokevirtual 111, 3) := by decide +kernel
theorem dX5_offer_52 : decode cX5_offer 52 = .ok (.istore 9, 2) := by decide +kernel
theorem dX5_offer_54 : decode cX5_offer 54 = .ok (.aload_n 0, 1) := by decide +kernel
theorem dX5_offer_55 : decode cX5_offer 55 = .ok (.iload_n 1, 1) := by decide +kernel
theorem dX5_offer_56 : decode cX5_offer 56 = .ok (.iload_n 2, 1) := by decide +kernel
theorem dX5_offer_57 : decode cX5_offer 57 = .ok (.iload 8, 2) := by decide +kernel
theorem dX5_offer_59 : decode cX5_offer 59 = .ok (.iload_n 3, 1) := by decide +kernel
theorem dX5_offer_60 : decode cX5_offer 60 = .ok (.isub, 1) := by decide +kernel
theorem dX5_offer_61 : decode cX5_offer 61 = .ok (.invokevirtual 134, 3) := by decide +kernel
theorem dX5_offer_64 : decode cX5_offer 64 = .ok (.istore 10, 2) := by decide +kernel
theorem dX5_offer_66 : decode cX5_offer 66 = .ok (.aload_n 0, 1) := by decide +kernel
theorem dX5_offer_67 : decode cX5_offer 67 = .ok (.getfield 38, 3) := by decide +kernel
theorem dX5_offer_70 : decode cX5_offer 70 = .ok (.iload 9, 2) := by decide +kernel
theorem dX5_offer_72 : decode cX5_offer 72 = .ok (.aload_n 0, 1) := by decide +kernel
theorem dX5_offer_73 : decode cX5_offer 73 = .ok (.getfield 38, 3) := by decide +kernel
theorem dX5_offer_76 : decode cX5_offer 76 = .ok (.iload 9, 2) := by decide +kernel
theorem dX5_offer_78 : decode cX5_offer 78 = .ok (.laload, 1) := by decide +kernel
theorem dX5_offer_79 : decode cX5_offer 79 = .ok (.lload 4, 2) := by decide +kernel
theorem dX5_offer_81 : decode cX5_offer 81 = .ok (.aload_n 0, 1) := by decide +kernel
theorem dX5_offer_82 : decode cX5_offer 82 = .ok (.iload_n 2, 1) := by decide +kernel
theorem dX5_offer_83 : decode cX5_offer 83 = .ok (.iload 7, 2) := by decide +kernel
theorem dX5_offer_85 : decode cX5_offer 85 = .ok (.iload 10, 2) := by decide +kernel
theorem dX5_offer_87 : decode cX5_offer 87 = .ok (.invokevirtual 137, 3) := by decide +kernel
theorem dX5_offer_90 : decode cX5_offer 90 = .ok (.ladd, 1) := by decide +kernel
theorem dX5_offer_91 : decode cX5_offer 91 = .ok (.invokestatic 140, 3) := by decide +kernel
theorem dX5_offer_94 : decode cX5_offer 94 = .ok (.lastore, 1) := by decide +kernel
theorem dX5_offer_95 : decode cX5_offer 95 = .ok (.iinc 8 1, 3) := by decide +kernel
theorem dX5_offer_98 : decode cX5_offer 98 = .ok (.goto (-64), 3) := by decide +kernel
theorem dX5_offer_101 : decode cX5_offer 101 = .ok (.iinc 6 1, 3) := by decide +kernel
theorem dX5_offer_104 : decode cX5_offer 104 = .ok (.goto (-92), 3) := by decide +kernel
theorem dX5_offer_107 : decode cX5_offer 107 = .ok (.return_, 1) := by decide +kernel
theorem dX5_priceOf_0 : decode cX5_priceOf 0 = .ok (.aload_n 0, 1) := by decide +kernel
theorem dX5_priceOf_1 : decode cX5_priceOf 1 = .ok (.iload_n 1, 1) := by decide +kernel
theorem dX5_priceOf_2 : decode cX5_priceOf 2 = .ok (.iload_n 2, 1) := by decide +kernel
theorem dX5_priceOf_3 : decode cX5_priceOf 3 = .ok (.iload_n 3, 1) := by decide +kernel
theorem dX5_priceOf_4 : decode cX5_priceOf 4 = .ok (.invokevirtual 143, 3) := by decide +kernel
theorem dX5_priceOf_7 : decode cX5_priceOf 7 = .ok (.aload_n 0, 1) := by decide +kernel
theorem dX5_priceOf_8 : decode cX5_priceOf 8 = .ok (.iload_n 1, 1) := by decide +kernel
theorem dX5_priceOf_9 : decode cX5_priceOf 9 = .ok (.iload_n 2, 1) := by decide +kernel
theorem dX5_priceOf_10 : decode cX5_priceOf 10 = .ok (.invokevirtual 146, 3) := by decide +kernel
theorem dX5_priceOf_13 : decode cX5_priceOf 13 = .ok (.iadd, 1) := by decide +kernel
theorem dX5_priceOf_14 : decode cX5_priceOf 14 = .ok (.i2l, 1) := by decide +kernel
theorem dX5_priceOf_15 : decode cX5_priceOf 15 = .ok (.lstore 4, 2) := by decide +kernel
theorem dX5_priceOf_17 : decode cX5_priceOf 17 = .ok (.lload 4, 2) := by decide +kernel
theorem dX5_priceOf_19 : decode cX5_priceOf 19 = .ok (.ldc2_w 149, 3) := by decide +kernel
theorem dX5_priceOf_22 : decode cX5_priceOf 22 = .ok (.lmul, 1) := by decide +kernel
theorem dX5_priceOf_23 : decode cX5_priceOf 23 = .ok (.iload_n 3, 1) := by decide +kernel
theorem dX5_priceOf_24 : decode cX5_priceOf 24 = .ok (.i2l, 1) := by decide +kernel
theorem dX5_priceOf_25 : decode cX5_priceOf 25 = .ok (.ldc2_w 151, 3) := by decide +kernel
theorem dX5_priceOf_28 : decode cX5_priceOf 28 = .ok (.lmul, 1) := by decide +kernel
theorem dX5_priceOf_29 : decode cX5_priceOf 29 = .ok (.ladd, 1) := by decide +kernel
theorem dX5_priceOf_30 : decode cX5_priceOf 30 = .ok (.aload_n 0, 1) := by decide +kernel
theorem dX5_priceOf_31 : decode cX5_priceOf 31 = .ok (.getfield 24, 3) := by decide +kernel
theorem dX5_priceOf_34 : decode cX5_priceOf 34 = .ok (.iload_n 2, 1) := by decide +kernel
theorem dX5_priceOf_35 : decode cX5_priceOf 35 = .ok (.laload, 1) := by decide +kernel
theorem dX5_priceOf_36 : decode cX5_priceOf 36 = .ok (.ladd, 1) := by decide +kernel
theorem dX5_priceOf_37 : decode cX5_priceOf 37 = .ok (.lreturn, 1) := by decide +kernel
theorem dX5_overOf_0 : decode cX5_overOf 0 = .ok (.iconst 0, 1) := by decide +kernel
theorem dX5_overOf_1 : decode cX5_overOf 1 = .ok (.aload_n 0, 1) := by decide +kernel
theorem dX5_overOf_2 : decode cX5_overOf 2 = .ok (.getfield 15, 3) := by decide +kernel
theorem dX5_overOf_5 : decode cX5_overOf 5 = .ok (.iload_n 2, 1) := by decide +kernel
theorem dX5_overOf_6 : decode cX5_overOf 6 = .ok (.iaload, 1) := by decide +kernel
theorem dX5_overOf_7 : decode cX5_overOf 7 = .ok (.aload_n 0, 1) := by decide +kernel
theorem dX5_overOf_8 : decode cX5_overOf 8 = .ok (.getfield 15, 3) := by decide +kernel
theorem dX5_overOf_11 : decode cX5_overOf 11 = .ok (.iload_n 1, 1) := by decide +kernel
theorem dX5_overOf_12 : decode cX5_overOf 12 = .ok (.iaload, 1) := by decide +kernel
theorem dX5_overOf_13 : decode cX5_overOf 13 = .ok (.isub, 1) := by decide +kernel
theorem dX5_overOf_14 : decode cX5_overOf 14 = .ok (.aload_n 0, 1) := by decide +kernel
theorem dX5_overOf_15 : decode cX5_overOf 15 = .ok (.getfield 41, 3) := by decide +kernel
theorem dX5_overOf_18 : decode cX5_overOf 18 = .ok (.getfield 78, 3) := by decide +kernel
theorem dX5_overOf_21 : decode cX5_overOf 21 = .ok (.iload_n 3, 1) := by decide +kernel
theorem dX5_overOf_22 : decode cX5_overOf 22 = .ok (.iconst 1, 1) := by decide +kernel
theorem dX5_overOf_23 : decode cX5_overOf 23 = .ok (.if_icmp .ne 7, 3) := by decide +kernel
theorem dX5_overOf_26 : decode cX5_overOf 26 = .ok (.iconst 5, 1) := by decide +kernel
theorem dX5_overOf_27 : decode cX5_overOf 27 = .ok (.goto 4, 3) := by decide +kernel
theorem dX5_overOf_30 : decode cX5_overOf 30 = .ok (.iconst 4, 1) := by decide +kernel
theorem dX5_overOf_31 : decode cX5_overOf 31 = .ok (.iaload, 1) := by decide +kernel
theorem dX5_overOf_32 : decode cX5_overOf 32 = .ok (.isub, 1) := by decide +kernel
theorem dX5_overOf_33 : decode cX5_overOf 33 = .ok (.invokestatic 115, 3) := by decide +kernel
theorem dX5_overOf_36 : decode cX5_overOf 36 = .ok (.ireturn, 1) := by decide +kernel
theorem dX5_lateOf_0 : decode cX5_lateOf 0 = .ok (.iconst 0, 1) := by decide +kernel
theorem dX5_lateOf_1 : decode cX5_lateOf 1 = .ok (.aload_n 0, 1) := by decide +kernel
theorem dX5_lateOf_2 : decode cX5_lateOf 2 = .ok (.getfield 18, 3) := by decide +kernel
theorem dX5_lateOf_5 : decode cX5_lateOf 5 = .ok (.iload_n 2, 1) := by decide +kernel
theorem dX5_lateOf_6 : decode cX5_lateOf 6 = .ok (.iaload, 1) := by decide +kernel
theorem dX5_lateOf_7 : decode cX5_lateOf 7 = .ok (.aload_n 0, 1) := by decide +kernel
theorem dX5_lateOf_8 : decode cX5_lateOf 8 = .ok (.getfield 11, 3) := by decide +kernel
theorem dX5_lateOf_11 : decode cX5_lateOf 11 = .ok (.iload_n 1, 1) := by decide +kernel
theorem dX5_lateOf_12 : decode cX5_lateOf 12 = .ok (.iaload, 1) := by decide +kernel
theorem dX5_lateOf_13 : decode cX5_lateOf 13 = .ok (.isub, 1) := by decide +kernel
theorem dX5_lateOf_14 : decode cX5_lateOf 14 = .ok (.sipush 1440, 3) := by decide +kernel
theorem dX5_lateOf_17 : decode cX5_lateOf 17 = .ok (.isub, 1) := by decide +kernel
theorem dX5_lateOf_18 : decode cX5_lateOf 18 = .ok (.invokestatic 115, 3) := by decide +kernel
theorem dX5_lateOf_21 : decode cX5_lateOf 21 = .ok (.ireturn, 1) := by decide +kernel
theorem dX5_takenLeft_0 : decode cX5_takenLeft 0 = .ok (.aload_n 0, 1) := by decide +kernel
theorem dX5_takenLeft_1 : decode cX5_takenLeft 1 = .ok (.getfield 11, 3) := by decide +kernel
theorem dX5_takenLeft_4 : decode cX5_takenLeft 4 = .ok (.iload_n 2, 1) := by decide +kernel
theorem dX5_takenLeft_5 : decode cX5_takenLeft 5 = .ok (.iaload, 1) := by decide +kernel
theorem dX5_takenLeft_6 : decode cX5_takenLeft 6 = .ok (.iconst 1, 1) := by decide +kernel
theorem dX5_takenLeft_7 : decode cX5_takenLeft 7 = .ok (.isub, 1) := by decide +kernel
theorem dX5_takenLeft_8 : decode cX5_takenLeft 8 = .ok (.sipush 10080, 3) := by decide +kernel
theorem dX5_takenLeft_11 : decode cX5_takenLeft 11 = .ok (.idiv, 1) := by decide +kernel
theorem dX5_takenLeft_12 : decode cX5_takenLeft 12 = .ok (.istore 4, 2) := by decide +kernel
theorem dX5_takenLeft_14 : decode cX5_takenLeft 14 = .ok (.iload 4, 2) := by decide +kernel
theorem dX5_takenLeft_16 : decode cX5_takenLeft 16 = .ok (.aload_n 0, 1) := by decide +kernel
theorem dX5_takenLeft_17 : decode cX5_takenLeft 17 = .ok (.getfield 11, 3) := by decide +kernel
theorem dX5_takenLeft_20 : decode cX5_takenLeft 20 = .ok (.iload_n 1, 1) := by decide +kernel
theorem dX5_takenLeft_21 : decode cX5_takenLeft 21 = .ok (.iaload, 1) := by decide +kernel
theorem dX5_takenLeft_22 : decode cX5_takenLeft 22 = .ok (.sipush 10080, 3) := by decide +kernel
theorem dX5_takenLeft_25 : decode cX5_takenLeft 25 = .ok (.idiv, 1) := by decide +kernel
theorem dX5_takenLeft_26 : decode cX5_takenLeft 26 = .ok (.if_icmp .ne 7, 3) := by decide +kernel
theorem dX5_takenLeft_29 : decode cX5_takenLeft 29 = .ok (.iload_n 3, 1) := by decide +kernel
theorem dX5_takenLeft_30 : decode cX5_takenLeft 30 = .ok (.goto 7, 3) := by decide +kernel
theorem dX5_takenLeft_33 : decode cX5_takenLeft 33 = .ok (.aload_n 0, 1) := by decide +kernel
theorem dX5_takenLeft_34 : decode cX5_takenLeft 34 = .ok (.getfield 32, 3) := by decide +kernel
theorem dX5_takenLeft_37 : decode cX5_takenLeft 37 = .ok (.istore 5, 2) := by decide +kernel
theorem dX5_takenLeft_39 : decode cX5_takenLeft 39 = .ok (.aload_n 0, 1) := by decide +kernel
theorem dX5_takenLeft_40 : decode cX5_takenLeft 40 = .ok (.getfield 21, 3) := by decide +kernel
theorem dX5_takenLeft_43 : decode cX5_takenLeft 43 = .ok (.iload_n 2, 1) := by decide +kernel
theorem dX5_takenLeft_44 : decode cX5_takenLeft 44 = .ok (.iaload, 1) := by decide +kernel
theorem dX5_takenLeft_45 : decode cX5_takenLeft 45 = .ok (.iconst 2, 1) := by decide +kernel
theorem dX5_takenLeft_46 : decode cX5_takenLeft 46 = .ok (.if_icmp .ne 6, 3) := by decide +kernel
theorem dX5_takenLeft_49 : decode cX5_takenLeft 49 = .ok (.iinc 5 (-1), 3) := by decide +kernel
theorem dX5_takenLeft_52 : decode cX5_takenLeft 52 = .ok (.iload 5, 2) := by decide +kernel
theorem dX5_takenLeft_54 : decode cX5_takenLeft 54 = .ok (.ifCond .lt 18, 3) := by decide +kernel
theorem dX5_takenLeft_57 : decode cX5_takenLeft 57 = .ok (.iload 4, 2) := by decide +kernel
theorem dX5_takenLeft_59 : decode cX5_takenLeft 59 = .ok (.aload_n 0, 1) := by decide +kernel
theorem dX5_takenLeft_60 : decode cX5_takenLeft 60 = .ok (.getfield 11, 3) := by decide +kernel
theorem dX5_takenLeft_63 : decode cX5_takenLeft 63 = .ok (.iload_n 2, 1) := by decide +kernel
theorem dX5_takenLeft_64 : decode cX5_takenLeft 64 = .ok (.iaload, 1) := by decide +kernel
theorem dX5_takenLeft_65 : decode cX5_takenLeft 65 = .ok (.sipush 10080, 3) := by decide +kernel
theorem dX5_takenLeft_68 : decode cX5_takenLeft 68 = .ok (.idiv, 1) := by decide +kernel
theorem dX5_takenLeft_69 : decode cX5_takenLeft 69 = .ok (.if_icmp .ne 8, 3) := by decide +kernel
theorem dX5_takenLeft_72 : decode cX5_takenLeft 72 = .ok (.iload 5, 2) := by decide +kernel
theorem dX5_takenLeft_74 : decode cX5_takenLeft 74 = .ok (.goto 7, 3) := by decide +kernel
theorem dX5_takenLeft_77 : decode cX5_takenLeft 77 = .ok (.aload_n 0, 1) := by decide +kernel
theorem dX5_takenLeft_78 : decode cX5_takenLeft 78 = .ok (.getfield 32, 3) := by decide +kernel
theorem dX5_takenLeft_81 : decode cX5_takenLeft 81 = .ok (.ireturn, 1) := by decide +kernel
theorem dX5_extendedLeft_0 : decode cX5_extendedLeft 0 = .ok (.iload_n 3, 1) := by decide +kernel
theorem dX5_extendedLeft_1 : decode cX5_extendedLeft 1 = .ok (.ifCond .lt 26, 3) := by decide +kernel
theorem dX5_extendedLeft_4 : decode cX5_extendedLeft 4 = .ok (.aload_n 0, 1) := by decide +kernel
theorem dX5_extendedLeft_5 : decode cX5_extendedLeft 5 = .ok (.getfield 11, 3) := by decide +kernel
theorem dX5_extendedLeft_8 : decode cX5_extendedLeft 8 = .ok (.iload_n 1, 1) := by decide +kernel
theorem dX5_extendedLeft_9 : decode cX5_extendedLeft 9 = .ok (.iaload, 1) := by decide +kernel
theorem dX5_extendedLeft_10 : decode cX5_extendedLeft 10 = .ok (.sipush 10080, 3) := by decide +kernel
theorem dX5_extendedLeft_13 : decode cX5_extendedLeft 13 = .ok (.idiv, 1) := by decide +kernel
theorem dX5_extendedLeft_14 : decode cX5_extendedLeft 14 = .ok (.aload_n 0, 1) := by decide +kernel
theorem dX5_extendedLeft_15 : decode cX5_extendedLeft 15 = .ok (.getfield 11, 3) := by decide +kernel
theorem dX5_extendedLeft_18 : decode cX5_extendedLeft 18 = .ok (.iload_n 2, 1) := by decide +kernel
theorem dX5_extendedLeft_19 : decode cX5_extendedLeft 19 = .ok (.iaload, 1) := by decide +kernel
theorem dX5_extendedLeft_20 : decode cX5_extendedLeft 20 = .ok (.sipush 10080, 3) := by decide +kernel
theorem dX5_extendedLeft_23 : decode cX5_extendedLeft 23 = .ok (.idiv, 1) := by decide +kernel
theorem dX5_extendedLeft_24 : decode cX5_extendedLeft 24 = .ok (.if_icmp .ne 7, 3) := by decide +kernel
theorem dX5_extendedLeft_27 : decode cX5_extendedLeft 27 = .ok (.iload_n 3, 1) := by decide +kernel
theorem dX5_extendedLeft_28 : decode cX5_extendedLeft 28 = .ok (.goto 7, 3) := by decide +kernel
theorem dX5_extendedLeft_31 : decode cX5_extendedLeft 31 = .ok (.aload_n 0, 1) := by decide +kernel
theorem dX5_extendedLeft_32 : decode cX5_extendedLeft 32 = .ok (.getfield 35, 3) := by decide +kernel
theorem dX5_extendedLeft_35 : decode cX5_extendedLeft 35 = .ok (.ireturn, 1) := by decide +kernel
theorem dX5_leastFrom_0 : decode cX5_leastFrom 0 = .ok (.iload_n 2, 1) := by decide +kernel
theorem dX5_leastFrom_1 : decode cX5_leastFrom 1 = .ok (.ifCond .lt 7, 3) := by decide +kernel
theorem dX5_leastFrom_4 : decode cX5_leastFrom 4 = .ok (.iload_n 3, 1) := by decide +kernel
theorem dX5_leastFrom_5 : decode cX5_leastFrom 5 = .ok (.ifCond .ge 9, 3) := by decide +kernel
theorem dX5_leastFrom_8 : decode cX5_leastFrom 8 = .ok (.ldc2_w 118, 3) := by decide +kernel
theorem dX5_leastFrom_11 : decode cX5_leastFrom 11 = .ok (.goto 15, 3) := by decide +kernel
theorem dX5_leastFrom_14 : decode cX5_leastFrom 14 = .ok (.aload_n 0, 1) := by decide +kernel
theorem dX5_leastFrom_15 : decode cX5_leastFrom 15 = .ok (.getfield 38, 3) := by decide +kernel
theorem dX5_leastFrom_18 : decode cX5_leastFrom 18 = .ok (.aload_n 0, 1) := by decide +kernel
theorem dX5_leastFrom_19 : decode cX5_leastFrom 19 = .ok (.iload_n 1, 1) := by decide +kernel
theorem dX5_leastFrom_20 : decode cX5_leastFrom 20 = .ok (.iload_n 2, 1) := by decide +kernel
theorem dX5_leastFrom_21 : decode cX5_leastFrom 21 = .ok (.iload_n 3, 1) := by decide +kernel
theorem dX5_leastFrom_22 : decode cX5_leastFrom 22 = .ok (.invokevirtual 111, 3) := by decide +kernel
theorem dX5_leastFrom_25 : decode cX5_leastFrom 25 = .ok (.laload, 1) := by decide +kernel
theorem dX5_leastFrom_26 : decode cX5_leastFrom 26 = .ok (.lreturn, 1) := by decide +kernel
theorem dX5_tellDays_0 : decode cX5_tellDays 0 = .ok (.aload_n 0, 1) := by decide +kernel
theorem dX5_tellDays_1 : decode cX5_tellDays 1 = .ok (.getfield 49, 3) := by decide +kernel
theorem dX5_tellDays_4 : decode cX5_tellDays 4 = .ok (.iconst 0, 1) := by decide +kernel
theorem dX5_tellDays_5 : decode cX5_tellDays 5 = .ok (.putfield 153, 3) := by decide +kernel
theorem dX5_tellDays_8 : decode cX5_tellDays 8 = .ok (.iconst 0, 1) := by decide +kernel
theorem dX5_tellDays_9 : decode cX5_tellDays 9 = .ok (.istore_n 1, 1) := by decide +kernel
theorem dX5_tellDays_10 : decode cX5_tellDays 10 = .ok (.aload_n 0, 1) := by decide +kernel
theorem dX5_tellDays_11 : decode cX5_tellDays 11 = .ok (.getfield 32, 3) := by decide +kernel
theorem dX5_tellDays_14 : decode cX5_tellDays 14 = .ok (.istore_n 2, 1) := by decide +kernel
theorem dX5_tellDays_15 : decode cX5_tellDays 15 = .ok (.aload_n 0, 1) := by decide +kernel
theorem dX5_tellDays_16 : decode cX5_tellDays 16 = .ok (.getfield 35, 3) := by decide +kernel
theorem dX5_tellDays_19 : decode cX5_tellDays 19 = .ok (.istore_n 3, 1) := by decide +kernel
theorem dX5_tellDays_20 : decode cX5_tellDays 20 = .ok (.iconst 0, 1) := by decide +kernel
theorem dX5_tellDays_21 : decode cX5_tellDays 21 = .ok (.istore 4, 2) := by decide +kernel
theorem dX5_tellDays_23 : decode cX5_tellDays 23 = .ok (.iload 4, 2) := by decide +kernel
theorem dX5_tellDays_25 : decode cX5_tellDays 25 = .ok (.aload_n 0, 1) := by decide +kernel
theorem dX5_tellDays_26 : decode cX5_tellDays 26 = .ok (.getfield 28, 3) := by decide +kernel
theorem dX5_tellDays_29 : decode cX5_tellDays 29 = .ok (.if_icmp .ge 136, 3) := by decide +kernel
theorem dX5_tellDays_32 : decode cX5_tellDays 32 = .ok (.aload_n 0, 1) := by decide +kernel
theorem dX5_tellDays_33 : decode cX5_tellDays 33 = .ok (.getfield 11, 3) := by decide +kernel
theorem dX5_tellDays_36 : decode cX5_tellDays 36 = .ok (.iload_n 1, 1) := by decide +kernel
theorem dX5_tellDays_37 : decode cX5_tellDays 37 = .ok (.iaload, 1) := by decide +kernel
theorem dX5_tellDays_38 : decode cX5_tellDays 38 = .ok (.aload_n 0, 1) := by decide +kernel
theorem dX5_tellDays_39 : decode cX5_tellDays 39 = .ok (.getfield 45, 3) := by decide +kernel
theorem dX5_tellDays_42 : decode cX5_tellDays 42 = .ok (.getfield 91, 3) := by decide +kernel
theorem dX5_tellDays_45 : decode cX5_tellDays 45 = .ok (.if_icmp .ge 120, 3) := by decide +kernel
theorem dX5_tellDays_48 : decode cX5_tellDays 48 = .ok (.aload_n 0, 1) := by decide +kernel
theorem dX5_tellDays_49 : decode cX5_tellDays 49 = .ok (.iload_n 1, 1) := by decide +kernel
theorem dX5_tellDays_50 : decode cX5_tellDays 50 = .ok (.iload_n 2, 1) := by decide +kernel
theorem dX5_tellDays_51 : decode cX5_tellDays 51 = .ok (.iload_n 3, 1) := by decide +kernel
theorem dX5_tellDays_52 : decode cX5_tellDays 52 = .ok (.invokevirtual 156, 3) := by decide +kernel
theorem dX5_tellDays_55 : decode cX5_tellDays 55 = .ok (.istore 5, 2) := by decide +kernel
theorem dX5_tellDays_57 : decode cX5_tellDays 57 = .ok (.iload 5, 2) := by decide +kernel
theorem dX5_tellDays_59 : decode cX5_tellDays 59 = .ok (.iconst 2, 1) := by decide +kernel
theorem dX5_tellDays_60 : decode cX5_tellDays 60 = .ok (.idiv, 1) := by decide +kernel
theorem dX5_tellDays_61 : decode cX5_tellDays 61 = .ok (.istore 6, 2) := by decide +kernel
theorem dX5_tellDays_63 : decode cX5_tellDays 63 = .ok (.iload 5, 2) := by decide +kernel
theorem dX5_tellDays_65 : decode cX5_tellDays 65 = .ok (.iconst 2, 1) := by decide +kernel
theorem dX5_tellDays_66 : decode cX5_tellDays 66 = .ok (.irem, 1) := by decide +kernel
theorem dX5_tellDays_67 : decode cX5_tellDays 67 = .ok (.istore 7, 2) := by decide +kernel
theorem dX5_tellDays_69 : decode cX5_tellDays 69 = .ok (.aload_n 0, 1) := by decide +kernel
theorem dX5_tellDays_70 : decode cX5_tellDays 70 = .ok (.getfield 49, 3) := by decide +kernel
theorem dX5_tellDays_73 : decode cX5_tellDays 73 = .ok (.aload_n 0, 1) := by decide +kernel
theorem dX5_tellDays_74 : decode cX5_tellDays 74 = .ok (.getfield 11, 3) := by decide +kernel
theorem dX5_tellDays_77 : decode cX5_tellDays 77 = .ok (.iload_n 1, 1) := by decide +kernel
theorem dX5_tellDays_78 : decode cX5_tellDays 78 = .ok (.iaload, 1) := by decide +kernel
theorem dX5_tellDays_79 : decode cX5_tellDays 79 = .ok (.aload_n 0, 1) := by decide +kernel
theorem dX5_tellDays_80 : decode cX5_tellDays 80 = .ok (.getfield 11, 3) := by decide +kernel
theorem dX5_tellDays_83 : decode cX5_tellDays 83 = .ok (.iload 6, 2) := by decide +kernel
theorem dX5_tellDays_85 : decode cX5_tellDays 85 = .ok (.iaload, 1) := by decide +kernel
theorem dX5_tellDays_86 : decode cX5_tellDays 86 = .ok (.aload_n 0, 1) := by decide +kernel
theorem dX5_tellDays_87 : decode cX5_tellDays 87 = .ok (.getfield 21, 3) := by decide +kernel
theorem dX5_tellDays_90 : decode cX5_tellDays 90 = .ok (.iload 6, 2) := by decide +kernel
theorem dX5_tellDays_92 : decode cX5_tellDays 92 = .ok (.iaload, 1) := by decide +kernel
theorem dX5_tellDays_93 : decode cX5_tellDays 93 = .ok (.invokevirtual 159, 3) := by decide +kernel
theorem dX5_tellDays_96 : decode cX5_tellDays 96 = .ok (.aload_n 0, 1) := by decide +kernel
theorem dX5_tellDays_97 : decode cX5_tellDays 97 = .ok (.getfield 49, 3) := by decide +kernel
theorem dX5_tellDays_100 : decode cX5_tellDays 100 = .ok (.aload_n 0, 1) := by decide +kernel
theorem dX5_tellDays_101 : decode cX5_tellDays 101 = .ok (.getfield 15, 3) := by decide +kernel
theorem dX5_tellDays_104 : decode cX5_tellDays 104 = .ok (.iload 6, 2) := by decide +kernel
theorem dX5_tellDays_106 : decode cX5_tellDays 106 = .ok (.iaload, 1) := by decide +kernel
theorem dX5_tellDays_107 : decode cX5_tellDays 107 = .ok (.aload_n 0, 1) := by decide +kernel
theorem dX5_tellDays_108 : decode cX5_tellDays 108 = .ok (.getfield 15, 3) := by decide +kernel
theorem dX5_tellDays_111 : decode cX5_tellDays 111 = .ok (.iload_n 1, 1) := by decide +kernel
theorem dX5_tellDays_112 : decode cX5_tellDays 112 = .ok (.iaload, 1) := by decide +kernel
theorem dX5_tellDays_113 : decode cX5_tellDays 113 = .ok (.isub, 1) := by decide +kernel
theorem dX5_tellDays_114 : decode cX5_tellDays 114 = .ok (.iload 7, 2) := by decide +kernel
theorem dX5_tellDays_116 : decode cX5_tellDays 116 = .ok (.aload_n 0, 1) := by decide +kernel
theorem dX5_tellDays_117 : decode cX5_tellDays 117 = .ok (.iload_n 1, 1) := by decide +kernel
theorem dX5_tellDays_118 : decode cX5_tellDays 118 = .ok (.iload 6, 2) := by decide +kernel
theorem dX5_tellDays_120 : decode cX5_tellDays 120 = .ok (.iload 7, 2) := by decide +kernel
theorem dX5_tellDays_122 : decode cX5_tellDays 122 = .ok (.invokevirtual 143, 3) := by decide +kernel
theorem dX5_tellDays_125 : decode cX5_tellDays 125 = .ok (.aload_n 0, 1) := by decide +kernel
theorem dX5_tellDays_126 : decode cX5_tellDays 126 = .ok (.iload_n 1, 1) := by decide +kernel
theorem dX5_tellDays_127 : decode cX5_tellDays 127 = .ok (.iload 6, 2) := by decide +kernel
theorem dX5_tellDays_129 : decode cX5_tellDays 129 = .ok (.invokevirtual 146, 3) := by decide +kernel
theorem dX5_tellDays_132 : decode cX5_tellDays 132 = .ok (.invokevirtual 162, 3) := by decide +kernel
theorem dX5_tellDays_135 : decode cX5_tellDays 135 = .ok (.aload_n 0, 1) := by decide +kernel
theorem dX5_tellDays_136 : decode cX5_tellDays 136 = .ok (.iload_n 1, 1) := by decide +kernel
theorem dX5_tellDays_137 : decode cX5_tellDays 137 = .ok (.iload 6, 2) := by decide +kernel
theorem dX5_tellDays_139 : decode cX5_tellDays 139 = .ok (.iload_n 2, 1) := by decide +kernel
theorem dX5_tellDays_140 : decode cX5_tellDays 140 = .ok (.invokevirtual 131, 3) := by decide +kernel
theorem dX5_tellDays_143 : decode cX5_tellDays 143 = .ok (.istore_n 2, 1) := by decide +kernel
theorem dX5_tellDays_144 : decode cX5_tellDays 144 = .ok (.aload_n 0, 1) := by decide +kernel
theorem dX5_tellDays_145 : decode cX5_tellDays 145 = .ok (.iload_n 1, 1) := by decide +kernel
theorem dX5_tellDays_146 : decode cX5_tellDays 146 = .ok (.iload 6, 2) := by decide +kernel
theorem dX5_tellDays_148 : decode cX5_tellDays 148 = .ok (.iload_n 3, 1) := by decide +kernel
theorem dX5_tellDays_149 : decode cX5_tellDays 149 = .ok (.iload 7, 2) := by decide +kernel
theorem dX5_tellDays_151 : decode cX5_tellDays 151 = .ok (.isub, 1) := by decide +kernel
theorem dX5_tellDays_152 : decode cX5_tellDays 152 = .ok (.invokevirtual 134, 3) := by decide +kernel
theorem dX5_tellDays_155 : decode cX5_tellDays 155 = .ok (.istore_n 3, 1) := by decide +kernel
theorem dX5_tellDays_156 : decode cX5_tellDays 156 = .ok (.iload 6, 2) := by decide +kernel
theorem dX5_tellDays_158 : decode cX5_tellDays 158 = .ok (.istore_n 1, 1) := by decide +kernel
theorem dX5_tellDays_159 : decode cX5_tellDays 159 = .ok (.iinc 4 1, 3) := by decide +kernel
theorem dX5_tellDays_162 : decode cX5_tellDays 162 = .ok (.goto (-139), 3) := by decide +kernel
theorem dX5_tellDays_165 : decode cX5_tellDays 165 = .ok (.return_, 1) := by decide +kernel
theorem dX5_choiceAt_0 : decode cX5_choiceAt 0 = .ok (.aload_n 0, 1) := by decide +kernel
theorem dX5_choiceAt_1 : decode cX5_choiceAt 1 = .ok (.iload_n 1, 1) := by decide +kernel
theorem dX5_choiceAt_2 : decode cX5_choiceAt 2 = .ok (.invokevirtual 120, 3) := by decide +kernel
theorem dX5_choiceAt_5 : decode cX5_choiceAt 5 = .ok (.istore 4, 2) := by decide +kernel
theorem dX5_choiceAt_7 : decode cX5_choiceAt 7 = .ok (.aload_n 0, 1) := by decide +kernel
theorem dX5_choiceAt_8 : decode cX5_choiceAt 8 = .ok (.iload_n 1, 1) := by decide +kernel
theorem dX5_choiceAt_9 : decode cX5_choiceAt 9 = .ok (.iload_n 2, 1) := by decide +kernel
theorem dX5_choiceAt_10 : decode cX5_choiceAt 10 = .ok (.iload_n 3, 1) := by decide +kernel
theorem dX5_choiceAt_11 : decode cX5_choiceAt 11 = .ok (.invokevirtual 137, 3) := by decide +kernel
theorem dX5_choiceAt_14 : decode cX5_choiceAt 14 = .ok (.lstore 5, 2) := by decide +kernel
theorem dX5_choiceAt_16 : decode cX5_choiceAt 16 = .ok (.iload_n 1, 1) := by decide +kernel
theorem dX5_choiceAt_17 : decode cX5_choiceAt 17 = .ok (.iconst 1, 1) := by decide +kernel
theorem dX5_choiceAt_18 : decode cX5_choiceAt 18 = .ok (.iadd, 1) := by decide +kernel
theorem dX5_choiceAt_19 : decode cX5_choiceAt 19 = .ok (.istore 7, 2) := by decide +kernel
theorem dX5_choiceAt_21 : decode cX5_choiceAt 21 = .ok (.iload 7, 2) := by decide +kernel
theorem dX5_choiceAt_23 : decode cX5_choiceAt 23 = .ok (.iload 4, 2) := by decide +kernel
theorem dX5_choiceAt_25 : decode cX5_choiceAt 25 = .ok (.if_icmp .gt 80, 3) := by decide +kernel
theorem dX5_choiceAt_28 : decode cX5_choiceAt 28 = .ok (.aload_n 0, 1) := by decide +kernel
theorem dX5_choiceAt_29 : decode cX5_choiceAt 29 = .ok (.iload_n 1, 1) := by decide +kernel
theorem dX5_choiceAt_30 : decode cX5_choiceAt 30 = .ok (.iload 7, 2) := by decide +kernel
theorem dX5_choiceAt_32 : decode cX5_choiceAt 32 = .ok (.iload_n 2, 1) := by decide +kernel
theorem dX5_choiceAt_33 : decode cX5_choiceAt 33 = .ok (.invokevirtual 131, 3) := by decide +kernel
theorem dX5_choiceAt_36 : decode cX5_choiceAt 36 = .ok (.istore 8, 2) := by decide +kernel
theorem dX5_choiceAt_38 : decode cX5_choiceAt 38 = .ok (.iconst 1, 1) := by decide +kernel
theorem dX5_choiceAt_39 : decode cX5_choiceAt 39 = .ok (.istore 9, 2) := by decide +kernel
theorem dX5_choiceAt_41 : decode cX5_choiceAt 41 = .ok (.iload 9, 2) := by decide +kernel
theorem dX5_choiceAt_43 : decode cX5_choiceAt 43 = .ok (.ifCond .lt 56, 3) := by decide +kernel
theorem dX5_choiceAt_46 : decode cX5_choiceAt 46 = .ok (.aload_n 0, 1) := by decide +kernel
theorem dX5_choiceAt_47 : decode cX5_choiceAt 47 = .ok (.iload_n 1, 1) := by decide +kernel
theorem dX5_choiceAt_48 : decode cX5_choiceAt 48 = .ok (.iload 7, 2) := by decide +kernel
theorem dX5_choiceAt_50 : decode cX5_choiceAt 50 = .ok (.iload_n 3, 1) := by decide +kernel
theorem dX5_choiceAt_51 : decode cX5_choiceAt 51 = .ok (.iload 9, 2) := by decide +kernel
theorem dX5_choiceAt_53 : decode cX5_choiceAt 53 = .ok (.isub, 1) := by decide +kernel
theorem dX5_choiceAt_54 : decode cX5_choiceAt 54 = .ok (.invokevirtual 134, 3) := by decide +kernel
theorem dX5_choiceAt_57 : decode cX5_choiceAt 57 = .ok (.istore 10, 2) := by decide +kernel
theorem dX5_choiceAt_59 : decode cX5_choiceAt 59 = .ok (.aload_n 0, 1) := by decide +kernel
theorem dX5_choiceAt_60 : decode cX5_choiceAt 60 = .ok (.iload_n 1, 1) := by decide +kernel
theorem dX5_choiceAt_61 : decode cX5_choiceAt 61 = .ok (.iload 7, 2) := by decide +kernel
theorem dX5_choiceAt_63 : decode cX5_choiceAt 63 = .ok (.iload 9, 2) := by decide +kernel
theorem dX5_choiceAt_65 : decode cX5_choiceAt 65 = .ok (.invokevirtual 127, 3) := by decide +kernel
theorem dX5_choiceAt_68 : decode cX5_choiceAt 68 = .ok (.aload_n 0, 1) := by decide +kernel
theorem dX5_choiceAt_69 : decode cX5_choiceAt 69 = .ok (.iload 7, 2) := by decide +kernel
theorem dX5_choiceAt_71 : decode cX5_choiceAt 71 = .ok (.iload 8, 2) := by decide +kernel
theorem dX5_choiceAt_73 : decode cX5_choiceAt 73 = .ok (.iload 10, 2) := by decide +kernel
theorem dX5_choiceAt_75 : decode cX5_choiceAt 75 = .ok (.invokevirtual 137, 3) := by decide +kernel
theorem dX5_choiceAt_78 : decode cX5_choiceAt 78 = .ok (.ladd, 1) := by decide +kernel
theorem dX5_choiceAt_79 : decode cX5_choiceAt 79 = .ok (.lload 5, 2) := by decide +kernel
theorem dX5_choiceAt_81 : decode cX5_choiceAt 81 = .ok (.lcmp, 1) := by decide +kernel
theorem dX5_choiceAt_82 : decode cX5_choiceAt 82 = .ok (.ifCond .ne 11, 3) := by decide +kernel
theorem dX5_choiceAt_85 : decode cX5_choiceAt 85 = .ok (.iconst 2, 1) := by decide +kernel
theorem dX5_choiceAt_86 : decode cX5_choiceAt 86 = .ok (.iload 7, 2) := by decide +kernel
theorem dX5_choiceAt_88 : decode cX5_choiceAt 88 = .ok (.imul, 1) := by decide +kernel
theorem dX5_choiceAt_89 : decode cX5_choiceAt 89 = .ok (.iload 9, 2) := by decide +kernel
theorem dX5_choiceAt_91 : decode cX5_choiceAt 91 = .ok (.iadd, 1) := by decide +kernel
theorem dX5_choiceAt_92 : decode cX5_choiceAt 92 = .ok (.ireturn, 1) := by decide +kernel
theorem dX5_choiceAt_93 : decode cX5_choiceAt 93 = .ok (.iinc 9 (-1), 3) := by decide +kernel
theorem dX5_choiceAt_96 : decode cX5_choiceAt 96 = .ok (.goto (-55), 3) := by decide +kernel
theorem dX5_choiceAt_99 : decode cX5_choiceAt 99 = .ok (.iinc 7 1, 3) := by decide +kernel
theorem dX5_choiceAt_102 : decode cX5_choiceAt 102 = .ok (.goto (-81), 3) := by decide +kernel
theorem dX5_choiceAt_105 : decode cX5_choiceAt 105 = .ok (.iconst 2, 1) := by decide +kernel
theorem dX5_choiceAt_106 : decode cX5_choiceAt 106 = .ok (.iload 4, 2) := by decide +kernel
theorem dX5_choiceAt_108 : decode cX5_choiceAt 108 = .ok (.imul, 1) := by decide +kernel
theorem dX5_choiceAt_109 : decode cX5_choiceAt 109 = .ok (.ireturn, 1) := by decide +kernel
theorem dX6_init_0 : decode cX6_init 0 = .ok (.aload_n 0, 1) := by decide +kernel
theorem dX6_init_1 : decode cX6_init 1 = .ok (.invokespecial 3, 3) := by decide +kernel
theorem dX6_init_4 : decode cX6_init 4 = .ok (.aload_n 0, 1) := by decide +kernel
theorem dX6_init_5 : decode cX6_init 5 = .ok (.bipush 60, 2) := by decide +kernel
theorem dX6_init_7 : decode cX6_init 7 = .ok (.newarray .int, 2) := by decide +kernel
theorem dX6_init_9 : decode cX6_init 9 = .ok (.putfield 9, 3) := by decide +kernel
theorem dX6_init_12 : decode cX6_init 12 = .ok (.aload_n 0, 1) := by decide +kernel
theorem dX6_init_13 : decode cX6_init 13 = .ok (.bipush 61, 2) := by decide +kernel
theorem dX6_init_15 : decode cX6_init 15 = .ok (.newarray .int, 2) := by decide +kernel
theorem dX6_init_17 : decode cX6_init 17 = .ok (.putfield 15, 3) := by decide +kernel
theorem dX6_init_20 : decode cX6_init 20 = .ok (.aload_n 0, 1) := by decide +kernel
theorem dX6_init_21 : decode cX6_init 21 = .ok (.bipush 60, 2) := by decide +kernel
theorem dX6_init_23 : decode cX6_init 23 = .ok (.newarray .int, 2) := by decide +kernel
theorem dX6_init_25 : decode cX6_init 25 = .ok (.putfield 18, 3) := by decide +kernel
theorem dX6_init_28 : decode cX6_init 28 = .ok (.aload_n 0, 1) := by decide +kernel
theorem dX6_init_29 : decode cX6_init 29 = .ok (.bipush 60, 2) := by decide +kernel
theorem dX6_init_31 : decode cX6_init 31 = .ok (.newarray .int, 2) := by decide +kernel
theorem dX6_init_33 : decode cX6_init 33 = .ok (.putfield 21, 3) := by decide +kernel
theorem dX6_init_36 : decode cX6_init 36 = .ok (.aload_n 0, 1) := by decide +kernel
theorem dX6_init_37 : decode cX6_init 37 = .ok (.bipush 60, 2) := by decide +kernel
theorem dX6_init_39 : decode cX6_init 39 = .ok (.newarray .int, 2) := by decide +kernel
theorem dX6_init_41 : decode cX6_init 41 = .ok (.putfield 24, 3) := by decide +kernel
theorem dX6_init_44 : decode cX6_init 44 = .ok (.aload_n 0, 1) := by decide +kernel
theorem dX6_init_45 : decode cX6_init 45 = .ok (.iconst 0, 1) := by decide +kernel
theorem dX6_init_46 : decode cX6_init 46 = .ok (.putfield 27, 3) := by decide +kernel
theorem dX6_init_49 : decode cX6_init 49 = .ok (.aload_n 0, 1) := by decide +kernel
theorem dX6_init_50 : decode cX6_init 50 = .ok (.iconst 0, 1) := by decide +kernel
theorem dX6_init_51 : decode cX6_init 51 = .ok (.putfield 31, 3) := by decide +kernel
theorem dX6_init_54 : decode cX6_init 54 = .ok (.aload_n 0, 1) := by decide +kernel
theorem dX6_init_55 : decode cX6_init 55 = .ok (.iconst 0, 1) := by decide +kernel
theorem dX6_init_56 : decode cX6_init 56 = .ok (.putfield 34, 3) := by decide +kernel
theorem dX6_init_59 : decode cX6_init 59 = .ok (.aload_n 0, 1) := by decide +kernel
theorem dX6_init_60 : decode cX6_init 60 = .ok (.iconst 0, 1) := by decide +kernel
theorem dX6_init_61 : decode cX6_init 61 = .ok (.putfield 37, 3) := by decide +kernel
theorem dX6_init_64 : decode cX6_init 64 = .ok (.return_, 1) := by decide +kernel
theorem dX6_read_0 : decode cX6_read 0 = .ok (.aload_n 0, 1) := by decide +kernel
theorem dX6_read_1 : decode cX6_read 1 = .ok (.aload_n 1, 1) := by decide +kernel
theorem dX6_read_2 : decode cX6_read 2 = .ok (.getfield 40, 3) := by decide +kernel
theorem dX6_read_5 : decode cX6_read 5 = .ok (.putfield 27, 3) := by decide +kernel
theorem dX6_read_8 : decode cX6_read 8 = .ok (.aload_n 0, 1) := by decide +kernel
theorem dX6_read_9 : decode cX6_read 9 = .ok (.aload_n 1, 1) := by decide +kernel
theorem dX6_read_10 : decode cX6_read 10 = .ok (.getfield 43, 3) := by decide +kernel
theorem dX6_read_13 : decode cX6_read 13 = .ok (.aload_n 0, 1) := by decide +kernel
theorem dX6_read_14 : decode cX6_read 14 = .ok (.getfield 27, 3) := by decide +kernel
theorem dX6_read_17 : decode cX6_read 17 = .ok (.iaload, 1) := by decide +kernel
theorem dX6_read_18 : decode cX6_read 18 = .ok (.putfield 31, 3) := by decide +kernel
theorem dX6_read_21 : decode cX6_read 21 = .ok (.aload_n 0, 1) := by decide +kernel
theorem dX6_read_22 : decode cX6_read 22 = .ok (.iconst 0, 1) := by decide +kernel
theorem dX6_read_23 : decode cX6_read 23 = .ok (.putfield 34, 3) := by decide +kernel
theorem dX6_read_26 : decode cX6_read 26 = .ok (.aload_n 0, 1) := by decide +kernel
theorem dX6_read_27 : decode cX6_read 27 = .ok (.iconst 0, 1) := by decide +kernel
theorem dX6_read_28 : decode cX6_read 28 = .ok (.putfield 37, 3) := by decide +kernel
theorem dX6_read_31 : decode cX6_read 31 = .ok (.aload_n 1, 1) := by decide +kernel
theorem dX6_read_32 : decode cX6_read 32 = .ok (.getfield 43, 3) := by decide +kernel
theorem dX6_read_35 : decode cX6_read 35 = .ok (.iconst 0, 1) := by decide +kernel
theorem dX6_read_36 : decode cX6_read 36 = .ok (.aload_n 0, 1) := by decide +kernel
theorem dX6_read_37 : decode cX6_read 37 = .ok (.getfield 15, 3) := by decide +kernel
theorem dX6_read_40 : decode cX6_read 40 = .ok (.iconst 0, 1) := by decide +kernel
theorem dX6_read_41 : decode cX6_read 41 = .ok (.aload_n 0, 1) := by decide +kernel
theorem dX6_read_42 : decode cX6_read 42 = .ok (.getfield 27, 3) := by decide +kernel
theorem dX6_read_45 : decode cX6_read 45 = .ok (.iconst 1, 1) := by decide +kernel
theorem dX6_read_46 : decode cX6_read 46 = .ok (.iadd, 1) := by decide +kernel
theorem dX6_read_47 : decode cX6_read 47 = .ok (.invokestatic 44, 3) := by decide +kernel
theorem dX6_read_50 : decode cX6_read 50 = .ok (.iconst 0, 1) := by decide +kernel
theorem dX6_read_51 : decode cX6_read 51 = .ok (.istore_n 3, 1) := by decide +kernel
theorem dX6_read_52 : decode cX6_read 52 = .ok (.iload_n 3, 1) := by decide +kernel
theorem dX6_read_53 : decode cX6_read 53 = .ok (.aload_n 0, 1) := by decide +kernel
theorem dX6_read_54 : decode cX6_read 54 = .ok (.getfield 27, 3) := by decide +kernel
theorem dX6_read_57 : decode cX6_read 57 = .ok (.if_icmp .ge 72, 3) := by decide +kernel
theorem dX6_read_60 : decode cX6_read 60 = .ok (.aload_n 0, 1) := by decide +kernel
theorem dX6_read_61 : decode cX6_read 61 = .ok (.getfield 9, 3) := by decide +kernel
theorem dX6_read_64 : decode cX6_read 64 = .ok (.iload_n 3, 1) := by decide +kernel
theorem dX6_read_65 : decode cX6_read 65 = .ok (.aload_n 1, 1) := by decide +kernel
theorem dX6_read_66 : decode cX6_read 66 = .ok (.iload_n 3, 1) := by decide +kernel
theorem dX6_read_67 : decode cX6_read 67 = .ok (.iload_n 2, 1) := by decide +kernel
theorem dX6_read_68 : decode cX6_read 68 = .ok (.invokevirtual 50, 3) := by decide +kernel
theorem dX6_read_71 : decode cX6_read 71 = .ok (.iastore, 1) := by decide +kernel
theorem dX6_read_72 : decode cX6_read 72 = .ok (.aload_n 0, 1) := by decide +kernel
theorem dX6_read_73 : decode cX6_read 73 = .ok (.getfield 9, 3) := by decide +kernel
theorem dX6_read_76 : decode cX6_read 76 = .ok (.iload_n 3, 1) := by decide +kernel
theorem dX6_read_77 : decode cX6_read 77 = .ok (.iaload, 1) := by decide +kernel
theorem dX6_read_78 : decode cX6_read 78 = .ok (.ifCond .ne 30, 3) := by decide +kernel
theorem dX6_read_81 : decode cX6_read 81 = .ok (.aload_n 0, 1) := by decide +kernel
theorem dX6_read_82 : decode cX6_read 82 = .ok (.dup, 1) := by decide +kernel
theorem dX6_read_83 : decode cX6_read 83 = .ok (.getfield 34, 3) := by decide +kernel
theorem dX6_read_86 : decode cX6_read 86 = .ok (.aload_n 0, 1) := by decide +kernel
theorem dX6_read_87 : decode cX6_read 87 = .ok (.getfield 15, 3) := by decide +kernel
theorem dX6_read_90 : decode cX6_read 90 = .ok (.iload_n 3, 1) := by decide +kernel
theorem dX6_read_91 : decode cX6_read 91 = .ok (.iconst 1, 1) := by decide +kernel
theorem dX6_read_92 : decode cX6_read 92 = .ok (.iadd, 1) := by decide +kernel
theorem dX6_read_93 : decode cX6_read 93 = .ok (.iaload, 1) := by decide +kernel
theorem dX6_read_94 : decode cX6_read 94 = .ok (.aload_n 0, 1) := by decide +kernel
theorem dX6_read_95 : decode cX6_read 95 = .ok (.getfield 15, 3) := by decide +kernel
theorem dX6_read_98 : decode cX6_read 98 = .ok (.iload_n 3, 1) := by decide +kernel
theorem dX6_read_99 : decode cX6_read 99 = .ok (.iaload, 1) := by decide +kernel
theorem dX6_read_100 : decode cX6_read 100 = .ok (.isub, 1) := by decide +kernel
theorem dX6_read_101 : decode cX6_read 101 = .ok (.iadd, 1) := by decide +kernel
theorem dX6_read_102 : decode cX6_read 102 = .ok (.putfield 34, 3) := by decide +kernel
theorem dX6_read_105 : decode cX6_read 105 = .ok (.goto 18, 3) := by decide +kernel
theorem dX6_read_108 : decode cX6_read 108 = .ok (.aload_n 0, 1) := by decide +kernel
theorem dX6_read_109 : decode cX6_read 109 = .ok (.getfield 9, 3) := by decide +kernel
theorem dX6_read_112 : decode cX6_read 112 = .ok (.iload_n 3, 1) := by decide +kernel
theorem dX6_read_113 : decode cX6_read 113 = .ok (.iaload, 1) := by decide +kernel
theorem dX6_read_114 : decode cX6_read 114 = .ok (.iconst 2, 1) := by decide +kernel
theorem dX6_read_115 : decode cX6_read 115 = .ok (.if_icmp .ne 8, 3) := by decide +kernel
theorem dX6_read_118 : decode cX6_read 118 = .ok (.aload_n 0, 1) := by decide +kernel
theorem dX6_read_119 : decode cX6_read 119 = .ok (.iload_n 3, 1) := by decide +kernel
theorem dX6_read_120 : decode cX6_read 120 = .ok (.invokevirtual 54, 3) := by decide +kernel
theorem dX6_read_123 : decode cX6_read 123 = .ok (.iinc 3 1, 3) := by decide +kernel
theorem dX6_read_126 : decode cX6_read 126 = .ok (.goto (-74), 3) := by decide +kernel
theorem dX6_read_129 : decode cX6_read 129 = .ok (.return_, 1) := by decide +kernel
theorem dX6_addRest_0 : decode cX6_addRest 0 = .ok (.iload_n 1, 1) := by decide +kernel
theorem dX6_addRest_1 : decode cX6_addRest 1 = .ok (.ifCond .eq 15, 3) := by decide +kernel
theorem dX6_addRest_4 : decode cX6_addRest 4 = .ok (.aload_n 0, 1) := by decide +kernel
theorem dX6_addRest_5 : decode cX6_addRest 5 = .ok (.getfield 9, 3) := by decide +kernel
theorem dX6_addRest_8 : decode cX6_addRest 8 = .ok (.iload_n 1, 1) := by decide +kernel
theorem dX6_addRest_9 : decode cX6_addRest 9 = .ok (.iconst 1, 1) := by decide +kernel
theorem dX6_addRest_10 : decode cX6_addRest 10 = .ok (.isub, 1) := by decide +kernel
theorem dX6_addRest_11 : decode cX6_addRest 11 = .ok (.iaload, 1) := by decide +kernel
theorem dX6_addRest_12 : decode cX6_addRest 12 = .ok (.iconst 2, 1) := by decide +kernel
theorem dX6_addRest_13 : decode cX6_addRest 13 = .ok (.if_icmp .eq 41, 3) := by decide +kernel
theorem dX6_addRest_16 : decode cX6_addRest 16 = .ok (.aload_n 0, 1) := by decide +kernel
theorem dX6_addRest_17 : decode cX6_addRest 17 = .ok (.getfield 18, 3) := by decide +kernel
theorem dX6_addRest_20 : decode cX6_addRest 20 = .ok (.aload_n 0, 1) := by decide +kernel
theorem dX6_addRest_21 : decode cX6_addRest 21 = .ok (.getfield 37, 3) := by decide +kernel
theorem dX6_addRest_24 : decode cX6_addRest 24 = .ok (.aload_n 0, 1) := by decide +kernel
theorem dX6_addRest_25 : decode cX6_addRest 25 = .ok (.getfield 15, 3) := by decide +kernel
theorem dX6_addRest_28 : decode cX6_addRest 28 = .ok (.iload_n 1, 1) := by decide +kernel
theorem dX6_addRest_29 : decode cX6_addRest 29 = .ok (.iaload, 1) := by decide +kernel
theorem dX6_addRest_30 : decode cX6_addRest 30 = .ok (.iastore, 1) := by decide +kernel
theorem dX6_addRest_31 : decode cX6_addRest 31 = .ok (.aload_n 0, 1) := by decide +kernel
theorem dX6_addRest_32 : decode cX6_addRest 32 = .ok (.getfield 24, 3) := by decide +kernel
theorem dX6_addRest_35 : decode cX6_addRest 35 = .ok (.aload_n 0, 1) := by decide +kernel
theorem dX6_addRest_36 : decode cX6_addRest 36 = .ok (.getfield 37, 3) := by decide +kernel
theorem dX6_addRest_39 : decode cX6_addRest 39 = .ok (.aload_n 0, 1) := by decide +kernel
theorem dX6_addRest_40 : decode cX6_addRest 40 = .ok (.getfield 34, 3) := by decide +kernel
theorem dX6_addRest_43 : decode cX6_addRest 43 = .ok (.iastore, 1) := by decide +kernel
theorem dX6_addRest_44 : decode cX6_addRest 44 = .ok (.aload_n 0, 1) := by decide +kernel
theorem dX6_addRest_45 : decode cX6_addRest 45 = .ok (.dup, 1) := by decide +kernel
theorem dX6_addRest_46 : decode cX6_addRest 46 = .ok (.getfield 37, 3) := by decide +kernel
theorem dX6_addRest_49 : decode cX6_addRest 49 = .ok (.iconst 1, 1) := by decide +kernel
theorem dX6_addRest_50 : decode cX6_addRest 50 = .ok (.iadd, 1) := by decide +kernel
theorem dX6_addRest_51 : decode cX6_addRest 51 = .ok (.putfield 37, 3) := by decide +kernel
theorem dX6_addRest_54 : decode cX6_addRest 54 = .ok (.aload_n 0, 1) := by decide +kernel
theorem dX6_addRest_55 : decode cX6_addRest 55 = .ok (.getfield 21, 3) := by decide +kernel
theorem dX6_addRest_58 : decode cX6_addRest 58 = .ok (.aload_n 0, 1) := by decide +kernel
theorem dX6_addRest_59 : decode cX6_addRest 59 = .ok (.getfield 37, 3) := by decide +kernel
theorem dX6_addRest_62 : decode cX6_addRest 62 = .ok (.iconst 1, 1) := by decide +kernel
theorem dX6_addRest_63 : decode cX6_addRest 63 = .ok (.isub, 1) := by decide +kernel
theorem dX6_addRest_64 : decode cX6_addRest 64 = .ok (.aload_n 0, 1) := by decide +kernel
theorem dX6_addRest_65 : decode cX6_addRest 65 = .ok (.getfield 15, 3) := by decide +kernel
theorem dX6_addRest_68 : decode cX6_addRest 68 = .ok (.iload_n 1, 1) := by decide +kernel
theorem dX6_addRest_69 : decode cX6_addRest 69 = .ok (.iconst 1, 1) := by decide +kernel
theorem dX6_addRest_70 : decode cX6_addRest 70 = .ok (.iadd, 1) := by decide +kernel
theorem dX6_addRest_71 : decode cX6_addRest 71 = .ok (.iaload, 1) := by decide +kernel
theorem dX6_addRest_72 : decode cX6_addRest 72 = .ok (.iastore, 1) := by decide +kernel
theorem dX6_addRest_73 : decode cX6_addRest 73 = .ok (.return_, 1) := by decide +kernel
theorem dX6_runLength_0 : decode cX6_runLength 0 = .ok (.aload_n 0, 1) := by decide +kernel
theorem dX6_runLength_1 : decode cX6_runLength 1 = .ok (.getfield 21, 3) := by decide +kernel
theorem dX6_runLength_4 : decode cX6_runLength 4 = .ok (.iload_n 1, 1) := by decide +kernel
theorem dX6_runLength_5 : decode cX6_runLength 5 = .ok (.iaload, 1) := by decide +kernel
theorem dX6_runLength_6 : decode cX6_runLength 6 = .ok (.aload_n 0, 1) := by decide +kernel
theorem dX6_runLength_7 : decode cX6_runLength 7 = .ok (.getfield 18, 3) := by decide +kernel
theorem dX6_runLength_10 : decode cX6_runLength 10 = .ok (.iload_n 1, 1) := by decide +kernel
theorem dX6_runLength_11 : decode cX6_runLength 11 = .ok (.iaload, 1) := by decide +kernel
theorem dX6_runLength_12 : decode cX6_runLength 12 = .ok (.isub, 1) := by decide +kernel
theorem dX6_runLength_13 : decode cX6_runLength 13 = .ok (.ireturn, 1) := by decide +kernel
theorem dX6_longestRun_0 : decode cX6_longestRun 0 = .ok (.iconst 0, 1) := by decide +kernel
theorem dX6_longestRun_1 : decode cX6_longestRun 1 = .ok (.istore_n 1, 1) := by decide +kernel
theorem dX6_longestRun_2 : decode cX6_longestRun 2 = .ok (.iconst 0, 1) := by decide +kernel
theorem dX6_longestRun_3 : decode cX6_longestRun 3 = .ok (.istore_n 2, 1) := by decide +kernel
theorem dX6_longestRun_4 : decode cX6_longestRun 4 = .ok (.iload_n 2, 1) := by decide +kernel
theorem dX6_longestRun_5 : decode cX6_longestRun 5 = .ok (.aload_n 0, 1) := by decide +kernel
theorem dX6_longestRun_6 : decode cX6_longestRun 6 = .ok (.getfield 37, 3) := by decide +kernel
theorem dX6_longestRun_9 : decode cX6_longestRun 9 = .ok (.if_icmp .ge 19, 3) := by decide +kernel
theorem dX6_longestRun_12 : decode cX6_longestRun 12 = .ok (.iload_n 1, 1) := by decide +kernel
theorem dX6_longestRun_13 : decode cX6_longestRun 13 = .ok (.aload_n 0, 1) := by decide +kernel
theorem dX6_longestRun_14 : decode cX6_longestRun 14 = .ok (.iload_n 2, 1) := by decide +kernel
theorem dX6_longestRun_15 : decode cX6_longestRun 15 = .ok (.invokevirtual 58, 3) := by decide +kernel
theorem dX6_longestRun_18 : decode cX6_longestRun 18 = .ok (.invokestatic 62, 3) := by decide +kernel
theorem dX6_longestRun_21 : decode cX6_longestRun 21 = .ok (.istore_n 1, 1) := by decide +kernel
theorem dX6_longestRun_22 : decode cX6_longestRun 22 = .ok (.iinc 2 1, 3) := by decide +kernel
theorem dX6_longestRun_25 : decode cX6_longestRun 25 = .ok (.goto (-21), 3) := by decide +kernel
theorem dX6_longestRun_28 : decode cX6_longestRun 28 = .ok (.iload_n 1, 1) := by decide +kernel
theorem dX6_longestRun_29 : decode cX6_longestRun 29 = .ok (.ireturn, 1) := by decide +kernel
theorem dX6_endsWithRun_0 : decode cX6_endsWithRun 0 = .ok (.aload_n 0, 1) := by decide +kernel
theorem dX6_endsWithRun_1 : decode cX6_endsWithRun 1 = .ok (.getfield 37, 3) := by decide +kernel
theorem dX6_endsWithRun_4 : decode cX6_endsWithRun 4 = .ok (.ifCond .le 25, 3) := by decide +kernel
theorem dX6_endsWithRun_7 : decode cX6_endsWithRun 7 = .ok (.aload_n 0, 1) := by decide +kernel
theorem dX6_endsWithRun_8 : decode cX6_endsWithRun 8 = .ok (.getfield 21, 3) := by decide +kernel
theorem dX6_endsWithRun_11 : decode cX6_endsWithRun 11 = .ok (.aload_n 0, 1) := by decide +kernel
theorem dX6_endsWithRun_12 : decode cX6_endsWithRun 12 = .ok (.getfield 37, 3) := by decide +kernel
theorem dX6_endsWithRun_15 : decode cX6_endsWithRun 15 = .ok (.iconst 1, 1) := by decide +kernel
theorem dX6_endsWithRun_16 : decode cX6_endsWithRun 16 = .ok (.isub, 1) := by decide +kernel
theorem dX6_endsWithRun_17 : decode cX6_endsWithRun 17 = .ok (.iaload, 1) := by decide +kernel
theorem dX6_endsWithRun_18 : decode cX6_endsWithRun 18 = .ok (.aload_n 0, 1) := by decide +kernel
theorem dX6_endsWithRun_19 : decode cX6_endsWithRun 19 = .ok (.getfield 31, 3) := by decide +kernel
theorem dX6_endsWithRun_22 : decode cX6_endsWithRun 22 = .ok (.if_icmp .ne 7, 3) := by decide +kernel
theorem dX6_endsWithRun_25 : decode cX6_endsWithRun 25 = .ok (.iconst 1, 1) := by decide +kernel
theorem dX6_endsWithRun_26 : decode cX6_endsWithRun 26 = .ok (.goto 4, 3) := by decide +kernel
theorem dX6_endsWithRun_29 : decode cX6_endsWithRun 29 = .ok (.iconst 0, 1) := by decide +kernel
theorem dX6_endsWithRun_30 : decode cX6_endsWithRun 30 = .ok (.ireturn, 1) := by decide +kernel
theorem dX6_driveAhead_0 : decode cX6_driveAhead 0 = .ok (.iconst 0, 1) := by decide +kernel
theorem dX6_driveAhead_1 : decode cX6_driveAhead 1 = .ok (.istore_n 2, 1) := by decide +kernel
theorem dX6_driveAhead_2 : decode cX6_driveAhead 2 = .ok (.iconst 0, 1) := by decide +kernel
theorem dX6_driveAhead_3 : decode cX6_driveAhead 3 = .ok (.istore_n 3, 1) := by decide +kernel
theorem dX6_driveAhead_4 : decode cX6_driveAhead 4 = .ok (.iload_n 3, 1) := by decide +kernel
theorem dX6_driveAhead_5 : decode cX6_driveAhead 5 = .ok (.aload_n 0, 1) := by decide +kernel
theorem dX6_driveAhead_6 : decode cX6_driveAhead 6 = .ok (.getfield 27, 3) := by decide +kernel
theorem dX6_driveAhead_9 : decode cX6_driveAhead 9 = .ok (.if_icmp .ge 50, 3) := by decide +kernel
theorem dX6_driveAhead_12 : decode cX6_driveAhead 12 = .ok (.aload_n 0, 1) := by decide +kernel
theorem dX6_driveAhead_13 : decode cX6_driveAhead 13 = .ok (.getfield 15, 3) := by decide +kernel
theorem dX6_driveAhead_16 : decode cX6_driveAhead 16 = .ok (.iload_n 3, 1) := by decide +kernel
theorem dX6_driveAhead_17 : decode cX6_driveAhead 17 = .ok (.iaload, 1) := by decide +kernel
theorem dX6_driveAhead_18 : decode cX6_driveAhead 18 = .ok (.iload_n 1, 1) := by decide +kernel
theorem dX6_driveAhead_19 : decode cX6_driveAhead 19 = .ok (.if_icmp .ge 40, 3) := by decide +kernel
theorem dX6_driveAhead_22 : decode cX6_driveAhead 22 = .ok (.aload_n 0, 1) := by decide +kernel
theorem dX6_driveAhead_23 : decode cX6_driveAhead 23 = .ok (.getfield 9, 3) := by decide +kernel
theorem dX6_driveAhead_26 : decode cX6_driveAhead 26 = .ok (.iload_n 3, 1) := by decide +kernel
theorem dX6_driveAhead_27 : decode cX6_driveAhead 27 = .ok (.iaload, 1) := by decide +kernel
theorem dX6_driveAhead_28 : decode cX6_driveAhead 28 = .ok (.ifCond .ne 25, 3) := by decide +kernel
theorem dX6_driveAhead_31 : decode cX6_driveAhead 31 = .ok (.iload_n 2, 1) := by decide +kernel
theorem dX6_driveAhead_32 : decode cX6_driveAhead 32 = .ok (.iload_n 1, 1) := by decide +kernel
theorem dX6_driveAhead_33 : decode cX6_driveAhead 33 = .ok (.aload_n 0, 1) := by decide +kernel
theorem dX6_driveAhead_34 : decode cX6_driveAhead 34 = .ok (.getfield 15, 3) := by decide +kernel
theorem dX6_driveAhead_37 : decode cX6_driveAhead 37 = .ok (.iload_n 3, 1) := by decide +kernel
theorem dX6_driveAhead_38 : decode cX6_driveAhead 38 = .ok (.iconst 1, 1) := by decide +kernel
theorem dX6_driveAhead_39 : decode cX6_driveAhead 39 = .ok (.iadd, 1) := by decide +kernel
theorem dX6_driveAhead_40 : decode cX6_driveAhead 40 = .ok (.iaload, 1) := by decide +kernel
theorem dX6_driveAhead_41 : decode cX6_driveAhead 41 = .ok (.invokestatic 68, 3) := by decide +kernel
theorem dX6_driveAhead_44 : decode cX6_driveAhead 44 = .ok (.aload_n 0, 1) := by decide +kernel
theorem dX6_driveAhead_45 : decode cX6_driveAhead 45 = .ok (.getfield 15, 3) := by decide +kernel
theorem dX6_driveAhead_48 : decode cX6_driveAhead 48 = .ok (.iload_n 3, 1) := by decide +kernel
theorem dX6_driveAhead_49 : decode cX6_driveAhead 49 = .ok (.iaload, 1) := by decide +kernel
theorem dX6_driveAhead_50 : decode cX6_driveAhead 50 = .ok (.isub, 1) := by decide +kernel
theorem dX6_driveAhead_51 : decode cX6_driveAhead 51 = .ok (.iadd, 1) := by decide +kernel
theorem dX6_driveAhead_52 : decode cX6_driveAhead 52 = .ok (.istore_n 2, 1) := by decide +kernel
theorem dX6_driveAhead_53 : decode cX6_driveAhead 53 = .ok (.iinc 3 1, 3) := by decide +kernel
theorem dX6_driveAhead_56 : decode cX6_driveAhead 56 = .ok (.goto (-52), 3) := by decide +kernel
theorem dX6_driveAhead_59 : decode cX6_driveAhead 59 = .ok (.iload_n 2, 1) := by decide +kernel
theorem dX6_driveAhead_60 : decode cX6_driveAhead 60 = .ok (.ireturn, 1) := by decide +kernel
theorem dX6_driveMinute_0 : decode cX6_driveMinute 0 = .ok (.iload_n 1, 1) := by decide +kernel
theorem dX6_driveMinute_1 : decode cX6_driveMinute 1 = .ok (.istore_n 2, 1) := by decide +kernel
theorem dX6_driveMinute_2 : decode cX6_driveMinute 2 = .ok (.iconst 0, 1) := by decide +kernel
theorem dX6_driveMinute_3 : decode cX6_driveMinute 3 = .ok (.istore_n 3, 1) := by decide +kernel
theorem dX6_driveMinute_4 : decode cX6_driveMinute 4 = .ok (.iload_n 3, 1) := by decide +kernel
theorem dX6_driveMinute_5 : decode cX6_driveMinute 5 = .ok (.aload_n 0, 1) := by decide +kernel
theorem dX6_driveMinute_6 : decode cX6_driveMinute 6 = .ok (.getfield 27, 3) := by decide +kernel
theorem dX6_driveMinute_9 : decode cX6_driveMinute 9 = .ok (.if_icmp .ge 64, 3) := by decide +kernel
theorem dX6_driveMinute_12 : decode cX6_driveMinute 12 = .ok (.aload_n 0, 1) := by decide +kernel
theorem dX6_driveMinute_13 : decode cX6_driveMinute 13 = .ok (.getfield 9, 3) := by decide +kernel
theorem dX6_driveMinute_16 : decode cX6_driveMinute 16 = .ok (.iload_n 3, 1) := by decide +kernel
theorem dX6_driveMinute_17 : decode cX6_driveMinute 17 = .ok (.iaload, 1) := by decide +kernel
theorem dX6_driveMinute_18 : decode cX6_driveMinute 18 = .ok (.ifCond .ne 49, 3) := by decide +kernel
theorem dX6_driveMinute_21 : decode cX6_driveMinute 21 = .ok (.iload_n 2, 1) := by decide +kernel
theorem dX6_driveMinute_22 : decode cX6_driveMinute 22 = .ok (.aload_n 0, 1) := by decide +kernel
theorem dX6_driveMinute_23 : decode cX6_driveMinute 23 = .ok (.getfield 15, 3) := by decide +kernel
theorem dX6_driveMinute_26 : decode cX6_driveMinute 26 = .ok (.iload_n 3, 1) := by decide +kernel
theorem dX6_driveMinute_27 : decode cX6_driveMinute 27 = .ok (.iconst 1, 1) := by decide +kernel
theorem dX6_driveMinute_28 : decode cX6_driveMinute 28 = .ok (.iadd, 1) := by decide +kernel
theorem dX6_driveMinute_29 : decode cX6_driveMinute 29 = .ok (.iaload, 1) := by decide +kernel
theorem dX6_driveMinute_30 : decode cX6_driveMinute 30 = .ok (.aload_n 0, 1) := by decide +kernel
theorem dX6_driveMinute_31 : decode cX6_driveMinute 31 = .ok (.getfield 15, 3) := by decide +kernel
theorem dX6_driveMinute_34 : decode cX6_driveMinute 34 = .ok (.iload_n 3, 1) := by decide +kernel
theorem dX6_driveMinute_35 : decode cX6_driveMinute 35 = .ok (.iaload, 1) := by decide +kernel
theorem dX6_driveMinute_36 : decode cX6_driveMinute 36 = .ok (.isub, 1) := by decide +kernel
theorem dX6_driveMinute_37 : decode cX6_driveMinute 37 = .ok (.if_icmp .ge 12, 3) := by decide +kernel
theorem dX6_driveMinute_40 : decode cX6_driveMinute 40 = .ok (.aload_n 0, 1) := by decide +kernel
theorem dX6_driveMinute_41 : decode cX6_driveMinute 41 = .ok (.getfield 15, 3) := by decide +kernel
theorem dX6_driveMinute_44 : decode cX6_driveMinute 44 = .ok (.iload_n 3, 1) := by decide +kernel
theorem dX6_driveMinute_45 : decode cX6_driveMinute 45 = .ok (.iaload, 1) := by decide +kernel
theorem dX6_driveMinute_46 : decode cX6_driveMinute 46 = .ok (.iload_n 2, 1) := by decide +kernel
theorem dX6_driveMinute_47 : decode cX6_driveMinute 47 = .ok (.iadd, 1) := by decide +kernel
theorem dX6_driveMinute_48 : decode cX6_driveMinute 48 = .ok (.ireturn, 1) := by decide +kernel
theorem dX6_driveMinute_49 : decode cX6_driveMinute 49 = .ok (.iload_n 2, 1) := by decide +kernel
theorem dX6_driveMinute_50 : decode cX6_driveMinute 50 = .ok (.aload_n 0, 1) := by decide +kernel
theorem dX6_driveMinute_51 : decode cX6_driveMinute 51 = .ok (.getfield 15, 3) := by decide +kernel
theorem dX6_driveMinute_54 : decode cX6_driveMinute 54 = .ok (.iload_n 3, 1) := by decide +kernel
theorem dX6_driveMinute_55 : decode cX6_driveMinute 55 = .ok (.iconst 1, 1) := by decide +kernel
theorem dX6_driveMinute_56 : decode cX6_driveMinute 56 = .ok (.iadd, 1) := by decide +kernel
theorem dX6_driveMinute_57 : decode cX6_driveMinute 57 = .ok (.iaload, 1) := by decide +kernel
theorem dX6_driveMinute_58 : decode cX6_driveMinute 58 = .ok (.aload_n 0, 1) := by decide +kernel
theorem dX6_driveMinute_59 : decode cX6_driveMinute 59 = .ok (.getfield 15, 3) := by decide +kernel
theorem dX6_driveMinute_62 : decode cX6_driveMinute 62 = .ok (.iload_n 3, 1) := by decide +kernel
theorem dX6_driveMinute_63 : decode cX6_driveMinute 63 = .ok (.iaload, 1) := by decide +kernel
theorem dX6_driveMinute_64 : decode cX6_driveMinute 64 = .ok (.isub, 1) := by decide +kernel
theorem dX6_driveMinute_65 : decode cX6_driveMinute 65 = .ok (.isub, 1) := by decide +kernel
theorem dX6_driveMinute_66 : decode cX6_driveMinute 66 = .ok (.istore_n 2, 1) := by decide +kernel
theorem dX6_driveMinute_67 : decode cX6_driveMinute 67 = .ok (.iinc 3 1, 3) := by decide +kernel
theorem dX6_driveMinute_70 : decode cX6_driveMinute 70 = .ok (.goto (-66), 3) := by decide +kernel
theorem dX6_driveMinute_73 : decode cX6_driveMinute 73 = .ok (.aload_n 0, 1) := by decide +kernel
theorem dX6_driveMinute_74 : decode cX6_driveMinute 74 = .ok (.getfield 31, 3) := by decide +kernel
theorem dX6_driveMinute_77 : decode cX6_driveMinute 77 = .ok (.ireturn, 1) := by decide +kernel
theorem dX7_init_0 : decode cX7_init 0 = .ok (.aload_n 0, 1) := by decide +kernel
theorem dX7_init_1 : decode cX7_init 1 = .ok (.invokespecial 1, 3) := by decide +kernel
theorem dX7_init_4 : decode cX7_init 4 = .ok (.aload_n 0, 1) := by decide +kernel
theorem dX7_init_5 : decode cX7_init 5 = .ok (.bipush 80, 2) := by decide +kernel
theorem dX7_init_7 : decode cX7_init 7 = .ok (.newarray .int, 2) := by decide +kernel
theorem dX7_init_9 : decode cX7_init 9 = .ok (.putfield 9, 3) := by decide +kernel
theorem dX7_init_12 : decode cX7_init 12 = .ok (.aload_n 0, 1) := by decide +kernel
theorem dX7_init_13 : decode cX7_init 13 = .ok (.iconst 0, 1) := by decide +kernel
theorem dX7_init_14 : decode cX7_init 14 = .ok (.putfield 13, 3) := by decide +kernel
theorem dX7_init_17 : decode cX7_init 17 = .ok (.return_, 1) := by decide +kernel
theorem dX7_hasRoom_0 : decode cX7_hasRoom 0 = .ok (.aload_n 0, 1) := by decide +kernel
theorem dX7_hasRoom_1 : decode cX7_hasRoom 1 = .ok (.getfield 13, 3) := by decide +kernel
theorem dX7_hasRoom_4 : decode cX7_hasRoom 4 = .ok (.bipush 60, 2) := by decide +kernel
theorem dX7_hasRoom_6 : decode cX7_hasRoom 6 = .ok (.if_icmp .gt 7, 3) := by decide +kernel
theorem dX7_hasRoom_9 : decode cX7_hasRoom 9 = .ok (.iconst 1, 1) := by decide +kernel
theorem dX7_hasRoom_10 : decode cX7_hasRoom 10 = .ok (.goto 4, 3) := by decide +kernel
theorem dX7_hasRoom_13 : decode cX7_hasRoom 13 = .ok (.iconst 0, 1) := by decide +kernel
theorem dX7_hasRoom_14 : decode cX7_hasRoom 14 = .ok (.ireturn, 1) := by decide +kernel
theorem dX7_append_0 : decode cX7_append 0 = .ok (.bipush 24, 2) := by decide +kernel
theorem dX7_append_2 : decode cX7_append 2 = .ok (.istore_n 2, 1) := by decide +kernel
theorem dX7_append_3 : decode cX7_append 3 = .ok (.iload_n 2, 1) := by decide +kernel
theorem dX7_append_4 : decode cX7_append 4 = .ok (.ifCond .lt 44, 3) := by decide +kernel
theorem dX7_append_7 : decode cX7_append 7 = .ok (.aload_n 0, 1) := by decide +kernel
theorem dX7_append_8 : decode cX7_append 8 = .ok (.getfield 13, 3) := by decide +kernel
theorem dX7_append_11 : decode cX7_append 11 = .ok (.bipush 80, 2) := by decide +kernel
theorem dX7_append_13 : decode cX7_append 13 = .ok (.if_icmp .ge 35, 3) := by decide +kernel
theorem dX7_append_16 : decode cX7_append 16 = .ok (.aload_n 0, 1) := by decide +kernel
theorem dX7_append_17 : decode cX7_append 17 = .ok (.getfield 9, 3) := by decide +kernel
theorem dX7_append_20 : decode cX7_append 20 = .ok (.aload_n 0, 1) := by decide +kernel
theorem dX7_append_21 : decode cX7_append 21 = .ok (.getfield 13, 3) := by decide +kernel
theorem dX7_append_24 : decode cX7_append 24 = .ok (.iload_n 1, 1) := by decide +kernel
theorem dX7_append_25 : decode cX7_append 25 = .ok (.iload_n 2, 1) := by decide +kernel
theorem dX7_append_26 : decode cX7_append 26 = .ok (.iushr, 1) := by decide +kernel
theorem dX7_append_27 : decode cX7_append 27 = .ok (.sipush 255, 3) := by decide +kernel
theorem dX7_append_30 : decode cX7_append 30 = .ok (.iand, 1) := by decide +kernel
theorem dX7_append_31 : decode cX7_append 31 = .ok (.iastore, 1) := by decide +kernel
theorem dX7_append_32 : decode cX7_append 32 = .ok (.aload_n 0, 1) := by decide +kernel
theorem dX7_append_33 : decode cX7_append 33 = .ok (.dup, 1) := by decide +kernel
theorem dX7_append_34 : decode cX7_append 34 = .ok (.getfield 13, 3) := by decide +kernel
theorem dX7_append_37 : decode cX7_append 37 = .ok (.iconst 1, 1) := by decide +kernel
theorem dX7_append_38 : decode cX7_append 38 = .ok (.iadd, 1) := by decide +kernel
theorem dX7_append_39 : decode cX7_append 39 = .ok (.putfield 13, 3) := by decide +kernel
theorem dX7_append_42 : decode cX7_append 42 = .ok (.iinc 2 (-8), 3) := by decide +kernel
theorem dX7_append_45 : decode cX7_append 45 = .ok (.goto (-42), 3) := by decide +kernel
theorem dX7_append_48 : decode cX7_append 48 = .ok (.return_, 1) := by decide +kernel
theorem dX8_init_0 : decode cX8_init 0 = .ok (.aload_n 0, 1) := by decide +kernel
theorem dX8_init_1 : decode cX8_init 1 = .ok (.invokespecial 1, 3) := by decide +kernel
theorem dX8_init_4 : decode cX8_init 4 = .ok (.aload_n 0, 1) := by decide +kernel
theorem dX8_init_5 : decode cX8_init 5 = .ok (.bipush 20, 2) := by decide +kernel
theorem dX8_init_7 : decode cX8_init 7 = .ok (.newarray .int, 2) := by decide +kernel
theorem dX8_init_9 : decode cX8_init 9 = .ok (.putfield 9, 3) := by decide +kernel
theorem dX8_init_12 : decode cX8_init 12 = .ok (.aload_n 0, 1) := by decide +kernel
theorem dX8_init_13 : decode cX8_init 13 = .ok (.bipush 20, 2) := by decide +kernel
theorem dX8_init_15 : decode cX8_init 15 = .ok (.newarray .int, 2) := by decide +kernel
theorem dX8_init_17 : decode cX8_init 17 = .ok (.putfield 13, 3) := by decide +kernel
theorem dX8_init_20 : decode cX8_init 20 = .ok (.aload_n 0, 1) := by decide +kernel
theorem dX8_init_21 : decode cX8_init 21 = .ok (.iconst 0, 1) := by decide +kernel
theorem dX8_init_22 : decode cX8_init 22 = .ok (.putfield 16, 3) := by decide +kernel
theorem dX8_init_25 : decode cX8_init 25 = .ok (.return_, 1) := by decide +kernel
theorem dX8_insert_0 : decode cX8_insert 0 = .ok (.aload_n 0, 1) := by decide +kernel
theorem dX8_insert_1 : decode cX8_insert 1 = .ok (.getfield 16, 3) := by decide +kernel
theorem dX8_insert_4 : decode cX8_insert 4 = .ok (.bipush 20, 2) := by decide +kernel
theorem dX8_insert_6 : decode cX8_insert 6 = .ok (.if_icmp .lt 5, 3) := by decide +kernel
theorem dX8_insert_9 : decode cX8_insert 9 = .ok (.iconst 0, 1) := by decide +kernel
theorem dX8_insert_10 : decode cX8_insert 10 = .ok (.ireturn, 1) := by decide +kernel
theorem dX8_insert_11 : decode cX8_insert 11 = .ok (.iconst 0, 1) := by decide +kernel
theorem dX8_insert_12 : decode cX8_insert 12 = .ok (.istore_n 3, 1) := by decide +kernel
theorem dX8_insert_13 : decode cX8_insert 13 = .ok (.iload_n 3, 1) := by decide +kernel
theorem dX8_insert_14 : decode cX8_insert 14 = .ok (.aload_n 0, 1) := by decide +kernel
theorem dX8_insert_15 : decode cX8_insert 15 = .ok (.getfield 16, 3) := by decide +kernel
theorem dX8_insert_18 : decode cX8_insert 18 = .ok (.if_icmp .ge 19, 3) := by decide +kernel
theorem dX8_insert_21 : decode cX8_insert 21 = .ok (.aload_n 0, 1) := by decide +kernel
theorem dX8_insert_22 : decode cX8_insert 22 = .ok (.getfield 13, 3) := by decide +kernel
theorem dX8_insert_25 : decode cX8_insert 25 = .ok (.iload_n 3, 1) := by decide +kernel
theorem dX8_insert_26 : decode cX8_insert 26 = .ok (.iaload, 1) := by decide +kernel
theorem dX8_insert_27 : decode cX8_insert 27 = .ok (.iload_n 1, 1) := by decide +kernel
theorem dX8_insert_28 : decode cX8_insert 28 = .ok (.if_icmp .gt 9, 3) := by decide +kernel
theorem dX8_insert_31 : decode cX8_insert 31 = .ok (.iinc 3 1, 3) := by decide +kernel
theorem dX8_insert_34 : decode cX8_insert 34 = .ok (.goto (-21), 3) := by decide +kernel
theorem dX8_insert_37 : decode cX8_insert 37 = .ok (.iload_n 3, 1) := by decide +kernel
theorem dX8_insert_38 : decode cX8_insert 38 = .ok (.aload_n 0, 1) := by decide +kernel
theorem dX8_insert_39 : decode cX8_insert 39 = .ok (.getfield 16, 3) := by decide +kernel
theorem dX8_insert_42 : decode cX8_insert 42 = .ok (.if_icmp .ge 15, 3) := by decide +kernel
theorem dX8_insert_45 : decode cX8_insert 45 = .ok (.aload_n 0, 1) := by decide +kernel
theorem dX8_insert_46 : decode cX8_insert 46 = .ok (.getfield 9, 3) := by decide +kernel
theorem dX8_insert_49 : decode cX8_insert 49 = .ok (.iload_n 3, 1) := by decide +kernel
theorem dX8_insert_50 : decode cX8_insert 50 = .ok (.iaload, 1) := by decide +kernel
theorem dX8_insert_51 : decode cX8_insert 51 = .ok (.iload_n 2, 1) := by decide +kernel
theorem dX8_insert_52 : decode cX8_insert 52 = .ok (.if_icmp .ge 5, 3) := by decide +kernel
theorem dX8_insert_55 : decode cX8_insert 55 = .ok (.iconst 0, 1) := by decide +kernel
theorem dX8_insert_56 : decode cX8_insert 56 = .ok (.ireturn, 1) := by decide +kernel
theorem dX8_insert_57 : decode cX8_insert 57 = .ok (.aload_n 0, 1) := by decide +kernel
theorem dX8_insert_58 : decode cX8_insert 58 = .ok (.getfield 9, 3) := by decide +kernel
theorem dX8_insert_61 : decode cX8_insert 61 = .ok (.iload_n 3, 1) := by decide +kernel
theorem dX8_insert_62 : decode cX8_insert 62 = .ok (.aload_n 0, 1) := by decide +kernel
theorem dX8_insert_63 : decode cX8_insert 63 = .ok (.getfield 9, 3) := by decide +kernel
theorem dX8_insert_66 : decode cX8_insert 66 = .ok (.iload_n 3, 1) := by decide +kernel
theorem dX8_insert_67 : decode cX8_insert 67 = .ok (.iconst 1, 1) := by decide +kernel
theorem dX8_insert_68 : decode cX8_insert 68 = .ok (.iadd, 1) := by decide +kernel
theorem dX8_insert_69 : decode cX8_insert 69 = .ok (.aload_n 0, 1) := by decide +kernel
theorem dX8_insert_70 : decode cX8_insert 70 = .ok (.getfield 16, 3) := by decide +kernel
theorem dX8_insert_73 : decode cX8_insert 73 = .ok (.iload_n 3, 1) := by decide +kernel
theorem dX8_insert_74 : decode cX8_insert 74 = .ok (.isub, 1) := by decide +kernel
theorem dX8_insert_75 : decode cX8_insert 75 = .ok (.invokestatic 20, 3) := by decide +kernel
theorem dX8_insert_78 : decode cX8_insert 78 = .ok (.aload_n 0, 1) := by decide +kernel
theorem dX8_insert_79 : decode cX8_insert 79 = .ok (.getfield 13, 3) := by decide +kernel
theorem dX8_insert_82 : decode cX8_insert 82 = .ok (.iload_n 3, 1) := by decide +kernel
theorem dX8_insert_83 : decode cX8_insert 83 = .ok (.aload_n 0, 1) := by decide +kernel
theorem dX8_insert_84 : decode cX8_insert 84 = .ok (.getfield 13, 3) := by decide +kernel
theorem dX8_insert_87 : decode cX8_insert 87 = .ok (.iload_n 3, 1) := by decide +kernel
theorem dX8_insert_88 : decode cX8_insert 88 = .ok (.iconst 1, 1) := by decide +kernel
theorem dX8_insert_89 : decode cX8_insert 89 = .ok (.iadd, 1) := by decide +kernel
theorem dX8_insert_90 : decode cX8_insert 90 = .ok (.aload_n 0, 1) := by decide +kernel
theorem dX8_insert_91 : decode cX8_insert 91 = .ok (.getfield 16, 3) := by decide +kernel
theorem dX8_insert_94 : decode cX8_insert 94 = .ok (.iload_n 3, 1) := by decide +kernel
theorem dX8_insert_95 : decode cX8_insert 95 = .ok (.isub, 1) := by decide +kernel
theorem dX8_insert_96 : decode cX8_insert 96 = .ok (.invokestatic 20, 3) := by decide +kernel
theorem dX8_insert_99 : decode cX8_insert 99 = .ok (.aload_n 0, 1) := by decide +kernel
theorem dX8_insert_100 : decode cX8_insert 100 = .ok (.getfield 9, 3) := by decide +kernel
theorem dX8_insert_103 : decode cX8_insert 103 = .ok (.iload_n 3, 1) := by decide +kernel
theorem dX8_insert_104 : decode cX8_insert 104 = .ok (.iload_n 1, 1) := by decide +kernel
theorem dX8_insert_105 : decode cX8_insert 105 = .ok (.iastore, 1) := by decide +kernel
theorem dX8_insert_106 : decode cX8_insert 106 = .ok (.aload_n 0, 1) := by decide +kernel
theorem dX8_insert_107 : decode cX8_insert 107 = .ok (.getfield 13, 3) := by decide +kernel
theorem dX8_insert_110 : decode cX8_insert 110 = .ok (.iload_n 3, 1) := by decide +kernel
theorem dX8_insert_111 : decode cX8_insert 111 = .ok (.iload_n 2, 1) := by decide +kernel
theorem dX8_insert_112 : decode cX8_insert 112 = .ok (.iastore, 1) := by decide +kernel
theorem dX8_insert_113 : decode cX8_insert 113 = .ok (.aload_n 0, 1) := by decide +kernel
theorem dX8_insert_114 : decode cX8_insert 114 = .ok (.dup, 1) := by decide +kernel
theorem dX8_insert_115 : decode cX8_insert 115 = .ok (.getfield 16, 3) := by decide +kernel
theorem dX8_insert_118 : decode cX8_insert 118 = .ok (.iconst 1, 1) := by decide +kernel
theorem dX8_insert_119 : decode cX8_insert 119 = .ok (.iadd, 1) := by decide +kernel
theorem dX8_insert_120 : decode cX8_insert 120 = .ok (.putfield 16, 3) := by decide +kernel
theorem dX8_insert_123 : decode cX8_insert 123 = .ok (.iconst 1, 1) := by decide +kernel
theorem dX8_insert_124 : decode cX8_insert 124 = .ok (.ireturn, 1) := by decide +kernel
theorem dX9_init_0 : decode cX9_init 0 = .ok (.aload_n 0, 1) := by decide +kernel
theorem dX9_init_1 : decode cX9_init 1 = .ok (.invokespecial 3, 3) := by decide +kernel
theorem dX9_init_4 : decode cX9_init 4 = .ok (.aload_n 0, 1) := by decide +kernel
theorem dX9_init_5 : decode cX9_init 5 = .ok (.iconst 0, 1) := by decide +kernel
theorem dX9_init_6 : decode cX9_init 6 = .ok (.putfield 9, 3) := by decide +kernel
theorem dX9_init_9 : decode cX9_init 9 = .ok (.aload_n 0, 1) := by decide +kernel
theorem dX9_init_10 : decode cX9_init 10 = .ok (.iconst 0, 1) := by decide +kernel
theorem dX9_init_11 : decode cX9_init 11 = .ok (.putfield 15, 3) := by decide +kernel
theorem dX9_init_14 : decode cX9_init 14 = .ok (.aload_n 0, 1) := by decide +kernel
end
section
theorem dX9_init_15 : decode cX9_init 15 = .ok (.aload_n 1, 1) := by decide +kernel
theorem dX9_init_16 : decode cX9_init 16 = .ok (.putfield 19, 3) := by decide +kernel
theorem dX9_init_19 : decode cX9_init 19 = .ok (.aload_n 0, 1) := by decide +kernel
theorem dX9_init_20 : decode cX9_init 20 = .ok (.aload_n 2, 1) := by decide +kernel
theorem dX9_init_21 : decode cX9_init 21 = .ok (.putfield 23, 3) := by decide +kernel
theorem dX9_init_24 : decode cX9_init 24 = .ok (.return_, 1) := by decide +kernel
theorem dX9_frees_0 : decode cX9_frees 0 = .ok (.iload_n 1, 1) := by decide +kernel
theorem dX9_frees_1 : decode cX9_frees 1 = .ok (.aload_n 0, 1) := by decide +kernel
theorem dX9_frees_2 : decode cX9_frees 2 = .ok (.getfield 19, 3) := by decide +kernel
theorem dX9_frees_5 : decode cX9_frees 5 = .ok (.getfield 27, 3) := by decide +kernel
theorem dX9_frees_8 : decode cX9_frees 8 = .ok (.iconst 1, 1) := by decide +kernel
theorem dX9_frees_9 : decode cX9_frees 9 = .ok (.iaload, 1) := by decide +kernel
theorem dX9_frees_10 : decode cX9_frees 10 = .ok (.if_icmp .ge 23, 3) := by decide +kernel
theorem dX9_frees_13 : decode cX9_frees 13 = .ok (.aload_n 0, 1) := by decide +kernel
theorem dX9_frees_14 : decode cX9_frees 14 = .ok (.getfield 15, 3) := by decide +kernel
theorem dX9_frees_17 : decode cX9_frees 17 = .ok (.ifCond .eq 20, 3) := by decide +kernel
theorem dX9_frees_20 : decode cX9_frees 20 = .ok (.iload_n 1, 1) := by decide +kernel
theorem dX9_frees_21 : decode cX9_frees 21 = .ok (.aload_n 0, 1) := by decide +kernel
theorem dX9_frees_22 : decode cX9_frees 22 = .ok (.getfield 19, 3) := by decide +kernel
theorem dX9_frees_25 : decode cX9_frees 25 = .ok (.getfield 27, 3) := by decide +kernel
theorem dX9_frees_28 : decode cX9_frees 28 = .ok (.iconst 3, 1) := by decide +kernel
theorem dX9_frees_29 : decode cX9_frees 29 = .ok (.iaload, 1) := by decide +kernel
theorem dX9_frees_30 : decode cX9_frees 30 = .ok (.if_icmp .lt 7, 3) := by decide +kernel
theorem dX9_frees_33 : decode cX9_frees 33 = .ok (.iconst 1, 1) := by decide +kernel
theorem dX9_frees_34 : decode cX9_frees 34 = .ok (.goto 4, 3) := by decide +kernel
theorem dX9_frees_37 : decode cX9_frees 37 = .ok (.iconst 0, 1) := by decide +kernel
theorem dX9_frees_38 : decode cX9_frees 38 = .ok (.ireturn, 1) := by decide +kernel
theorem dX9_passRun_0 : decode cX9_passRun 0 = .ok (.aload_n 0, 1) := by decide +kernel
theorem dX9_passRun_1 : decode cX9_passRun 1 = .ok (.getfield 23, 3) := by decide +kernel
theorem dX9_passRun_4 : decode cX9_passRun 4 = .ok (.iload_n 1, 1) := by decide +kernel
theorem dX9_passRun_5 : decode cX9_passRun 5 = .ok (.invokevirtual 33, 3) := by decide +kernel
theorem dX9_passRun_8 : decode cX9_passRun 8 = .ok (.istore_n 2, 1) := by decide +kernel
theorem dX9_passRun_9 : decode cX9_passRun 9 = .ok (.aload_n 0, 1) := by decide +kernel
theorem dX9_passRun_10 : decode cX9_passRun 10 = .ok (.iload_n 2, 1) := by decide +kernel
theorem dX9_passRun_11 : decode cX9_passRun 11 = .ok (.invokevirtual 39, 3) := by decide +kernel
theorem dX9_passRun_14 : decode cX9_passRun 14 = .ok (.ifCond .eq 24, 3) := by decide +kernel
theorem dX9_passRun_17 : decode cX9_passRun 17 = .ok (.aload_n 0, 1) := by decide +kernel
theorem dX9_passRun_18 : decode cX9_passRun 18 = .ok (.aload_n 0, 1) := by decide +kernel
theorem dX9_passRun_19 : decode cX9_passRun 19 = .ok (.getfield 23, 3) := by decide +kernel
theorem dX9_passRun_22 : decode cX9_passRun 22 = .ok (.getfield 43, 3) := by decide +kernel
theorem dX9_passRun_25 : decode cX9_passRun 25 = .ok (.iload_n 1, 1) := by decide +kernel
theorem dX9_passRun_26 : decode cX9_passRun 26 = .ok (.iaload, 1) := by decide +kernel
theorem dX9_passRun_27 : decode cX9_passRun 27 = .ok (.putfield 9, 3) := by decide +kernel
theorem dX9_passRun_30 : decode cX9_passRun 30 = .ok (.aload_n 0, 1) := by decide +kernel
theorem dX9_passRun_31 : decode cX9_passRun 31 = .ok (.iconst 0, 1) := by decide +kernel
theorem dX9_passRun_32 : decode cX9_passRun 32 = .ok (.putfield 15, 3) := by decide +kernel
theorem dX9_passRun_35 : decode cX9_passRun 35 = .ok (.goto 21, 3) := by decide +kernel
theorem dX9_passRun_38 : decode cX9_passRun 38 = .ok (.iload_n 2, 1) := by decide +kernel
theorem dX9_passRun_39 : decode cX9_passRun 39 = .ok (.aload_n 0, 1) := by decide +kernel
theorem dX9_passRun_40 : decode cX9_passRun 40 = .ok (.getfield 19, 3) := by decide +kernel
theorem dX9_passRun_43 : decode cX9_passRun 43 = .ok (.getfield 27, 3) := by decide +kernel
theorem dX9_passRun_46 : decode cX9_passRun 46 = .ok (.iconst 2, 1) := by decide +kernel
theorem dX9_passRun_47 : decode cX9_passRun 47 = .ok (.iaload, 1) := by decide +kernel
theorem dX9_passRun_48 : decode cX9_passRun 48 = .ok (.if_icmp .lt 8, 3) := by decide +kernel
theorem dX9_passRun_51 : decode cX9_passRun 51 = .ok (.aload_n 0, 1) := by decide +kernel
theorem dX9_passRun_52 : decode cX9_passRun 52 = .ok (.iconst 1, 1) := by decide +kernel
theorem dX9_passRun_53 : decode cX9_passRun 53 = .ok (.putfield 15, 3) := by decide +kernel
theorem dX9_passRun_56 : decode cX9_passRun 56 = .ok (.return_, 1) := by decide +kernel
theorem dX9_passRuns_0 : decode cX9_passRuns 0 = .ok (.aload_n 0, 1) := by decide +kernel
theorem dX9_passRuns_1 : decode cX9_passRuns 1 = .ok (.iconst 0, 1) := by decide +kernel
theorem dX9_passRuns_2 : decode cX9_passRuns 2 = .ok (.putfield 9, 3) := by decide +kernel
theorem dX9_passRuns_5 : decode cX9_passRuns 5 = .ok (.aload_n 0, 1) := by decide +kernel
theorem dX9_passRuns_6 : decode cX9_passRuns 6 = .ok (.iconst 0, 1) := by decide +kernel
theorem dX9_passRuns_7 : decode cX9_passRuns 7 = .ok (.putfield 15, 3) := by decide +kernel
theorem dX9_passRuns_10 : decode cX9_passRuns 10 = .ok (.iconst 0, 1) := by decide +kernel
theorem dX9_passRuns_11 : decode cX9_passRuns 11 = .ok (.istore_n 2, 1) := by decide +kernel
theorem dX9_passRuns_12 : decode cX9_passRuns 12 = .ok (.iload_n 2, 1) := by decide +kernel
theorem dX9_passRuns_13 : decode cX9_passRuns 13 = .ok (.iload_n 1, 1) := by decide +kernel
theorem dX9_passRuns_14 : decode cX9_passRuns 14 = .ok (.if_icmp .ge 14, 3) := by decide +kernel
theorem dX9_passRuns_17 : decode cX9_passRuns 17 = .ok (.aload_n 0, 1) := by decide +kernel
theorem dX9_passRuns_18 : decode cX9_passRuns 18 = .ok (.iload_n 2, 1) := by decide +kernel
theorem dX9_passRuns_19 : decode cX9_passRuns 19 = .ok (.invokevirtual 46, 3) := by decide +kernel
theorem dX9_passRuns_22 : decode cX9_passRuns 22 = .ok (.iinc 2 1, 3) := by decide +kernel
theorem dX9_passRuns_25 : decode cX9_passRuns 25 = .ok (.goto (-13), 3) := by decide +kernel
theorem dX9_passRuns_28 : decode cX9_passRuns 28 = .ok (.return_, 1) := by decide +kernel
theorem dX9_tellOver_0 : decode cX9_tellOver 0 = .ok (.aload_n 0, 1) := by decide +kernel
theorem dX9_tellOver_1 : decode cX9_tellOver 1 = .ok (.iconst 0, 1) := by decide +kernel
theorem dX9_tellOver_2 : decode cX9_tellOver 2 = .ok (.invokevirtual 50, 3) := by decide +kernel
theorem dX9_tellOver_5 : decode cX9_tellOver 5 = .ok (.iconst 0, 1) := by decide +kernel
theorem dX9_tellOver_6 : decode cX9_tellOver 6 = .ok (.istore_n 2, 1) := by decide +kernel
theorem dX9_tellOver_7 : decode cX9_tellOver 7 = .ok (.iload_n 2, 1) := by decide +kernel
theorem dX9_tellOver_8 : decode cX9_tellOver 8 = .ok (.aload_n 0, 1) := by decide +kernel
theorem dX9_tellOver_9 : decode cX9_tellOver 9 = .ok (.getfield 23, 3) := by decide +kernel
theorem dX9_tellOver_12 : decode cX9_tellOver 12 = .ok (.getfield 53, 3) := by decide +kernel
theorem dX9_tellOver_15 : decode cX9_tellOver 15 = .ok (.if_icmp .ge 37, 3) := by decide +kernel
theorem dX9_tellOver_18 : decode cX9_tellOver 18 = .ok (.aload_n 0, 1) := by decide +kernel
theorem dX9_tellOver_19 : decode cX9_tellOver 19 = .ok (.getfield 9, 3) := by decide +kernel
theorem dX9_tellOver_22 : decode cX9_tellOver 22 = .ok (.istore_n 3, 1) := by decide +kernel
theorem dX9_tellOver_23 : decode cX9_tellOver 23 = .ok (.aload_n 0, 1) := by decide +kernel
theorem dX9_tellOver_24 : decode cX9_tellOver 24 = .ok (.iload_n 2, 1) := by decide +kernel
theorem dX9_tellOver_25 : decode cX9_tellOver 25 = .ok (.invokevirtual 46, 3) := by decide +kernel
theorem dX9_tellOver_28 : decode cX9_tellOver 28 = .ok (.aload_n 0, 1) := by decide +kernel
theorem dX9_tellOver_29 : decode cX9_tellOver 29 = .ok (.getfield 9, 3) := by decide +kernel
theorem dX9_tellOver_32 : decode cX9_tellOver 32 = .ok (.iload_n 3, 1) := by decide +kernel
theorem dX9_tellOver_33 : decode cX9_tellOver 33 = .ok (.if_icmp .le 13, 3) := by decide +kernel
theorem dX9_tellOver_36 : decode cX9_tellOver 36 = .ok (.aload_n 0, 1) := by decide +kernel
theorem dX9_tellOver_37 : decode cX9_tellOver 37 = .ok (.aload_n 1, 1) := by decide +kernel
theorem dX9_tellOver_38 : decode cX9_tellOver 38 = .ok (.iload_n 3, 1) := by decide +kernel
theorem dX9_tellOver_39 : decode cX9_tellOver 39 = .ok (.aload_n 0, 1) := by decide +kernel
theorem dX9_tellOver_40 : decode cX9_tellOver 40 = .ok (.getfield 9, 3) := by decide +kernel
theorem dX9_tellOver_43 : decode cX9_tellOver 43 = .ok (.invokevirtual 56, 3) := by decide +kernel
theorem dX9_tellOver_46 : decode cX9_tellOver 46 = .ok (.iinc 2 1, 3) := by decide +kernel
theorem dX9_tellOver_49 : decode cX9_tellOver 49 = .ok (.goto (-42), 3) := by decide +kernel
theorem dX9_tellOver_52 : decode cX9_tellOver 52 = .ok (.aload_n 0, 1) := by decide +kernel
theorem dX9_tellOver_53 : decode cX9_tellOver 53 = .ok (.aload_n 1, 1) := by decide +kernel
theorem dX9_tellOver_54 : decode cX9_tellOver 54 = .ok (.aload_n 0, 1) := by decide +kernel
theorem dX9_tellOver_55 : decode cX9_tellOver 55 = .ok (.getfield 9, 3) := by decide +kernel
theorem dX9_tellOver_58 : decode cX9_tellOver 58 = .ok (.aload_n 0, 1) := by decide +kernel
theorem dX9_tellOver_59 : decode cX9_tellOver 59 = .ok (.getfield 23, 3) := by decide +kernel
theorem dX9_tellOver_62 : decode cX9_tellOver 62 = .ok (.getfield 60, 3) := by decide +kernel
theorem dX9_tellOver_65 : decode cX9_tellOver 65 = .ok (.invokevirtual 56, 3) := by decide +kernel
theorem dX9_tellOver_68 : decode cX9_tellOver 68 = .ok (.return_, 1) := by decide +kernel
theorem dX9_tellSpell_0 : decode cX9_tellSpell 0 = .ok (.iload_n 2, 1) := by decide +kernel
theorem dX9_tellSpell_1 : decode cX9_tellSpell 1 = .ok (.aload_n 0, 1) := by decide +kernel
theorem dX9_tellSpell_2 : decode cX9_tellSpell 2 = .ok (.getfield 19, 3) := by decide +kernel
theorem dX9_tellSpell_5 : decode cX9_tellSpell 5 = .ok (.getfield 27, 3) := by decide +kernel
theorem dX9_tellSpell_8 : decode cX9_tellSpell 8 = .ok (.iconst 0, 1) := by decide +kernel
theorem dX9_tellSpell_9 : decode cX9_tellSpell 9 = .ok (.iaload, 1) := by decide +kernel
theorem dX9_tellSpell_10 : decode cX9_tellSpell 10 = .ok (.iadd, 1) := by decide +kernel
theorem dX9_tellSpell_11 : decode cX9_tellSpell 11 = .ok (.istore 4, 2) := by decide +kernel
theorem dX9_tellSpell_13 : decode cX9_tellSpell 13 = .ok (.iload_n 3, 1) := by decide +kernel
theorem dX9_tellSpell_14 : decode cX9_tellSpell 14 = .ok (.iload 4, 2) := by decide +kernel
theorem dX9_tellSpell_16 : decode cX9_tellSpell 16 = .ok (.if_icmp .le 21, 3) := by decide +kernel
theorem dX9_tellSpell_19 : decode cX9_tellSpell 19 = .ok (.aload_n 1, 1) := by decide +kernel
theorem dX9_tellSpell_20 : decode cX9_tellSpell 20 = .ok (.aload_n 0, 1) := by decide +kernel
theorem dX9_tellSpell_21 : decode cX9_tellSpell 21 = .ok (.getfield 23, 3) := by decide +kernel
theorem dX9_tellSpell_24 : decode cX9_tellSpell 24 = .ok (.iload 4, 2) := by decide +kernel
theorem dX9_tellSpell_26 : decode cX9_tellSpell 26 = .ok (.invokevirtual 63, 3) := by decide +kernel
theorem dX9_tellSpell_29 : decode cX9_tellSpell 29 = .ok (.iconst 1, 1) := by decide +kernel
theorem dX9_tellSpell_30 : decode cX9_tellSpell 30 = .ok (.iload_n 3, 1) := by decide +kernel
theorem dX9_tellSpell_31 : decode cX9_tellSpell 31 = .ok (.iload 4, 2) := by decide +kernel
theorem dX9_tellSpell_33 : decode cX9_tellSpell 33 = .ok (.isub, 1) := by decide +kernel
theorem dX9_tellSpell_34 : decode cX9_tellSpell 34 = .ok (.invokevirtual 66, 3) := by decide +kernel
theorem dX9_tellSpell_37 : decode cX9_tellSpell 37 = .ok (.return_, 1) := by decide +kernel
theorem dX9_leftNow_0 : decode cX9_leftNow 0 = .ok (.aload_n 0, 1) := by decide +kernel
theorem dX9_leftNow_1 : decode cX9_leftNow 1 = .ok (.aload_n 0, 1) := by decide +kernel
theorem dX9_leftNow_2 : decode cX9_leftNow 2 = .ok (.getfield 23, 3) := by decide +kernel
theorem dX9_leftNow_5 : decode cX9_leftNow 5 = .ok (.getfield 53, 3) := by decide +kernel
theorem dX9_leftNow_8 : decode cX9_leftNow 8 = .ok (.invokevirtual 50, 3) := by decide +kernel
theorem dX9_leftNow_11 : decode cX9_leftNow 11 = .ok (.iconst 0, 1) := by decide +kernel
theorem dX9_leftNow_12 : decode cX9_leftNow 12 = .ok (.aload_n 0, 1) := by decide +kernel
theorem dX9_leftNow_13 : decode cX9_leftNow 13 = .ok (.getfield 19, 3) := by decide +kernel
theorem dX9_leftNow_16 : decode cX9_leftNow 16 = .ok (.getfield 27, 3) := by decide +kernel
theorem dX9_leftNow_19 : decode cX9_leftNow 19 = .ok (.iconst 0, 1) := by decide +kernel
theorem dX9_leftNow_20 : decode cX9_leftNow 20 = .ok (.iaload, 1) := by decide +kernel
theorem dX9_leftNow_21 : decode cX9_leftNow 21 = .ok (.aload_n 0, 1) := by decide +kernel
theorem dX9_leftNow_22 : decode cX9_leftNow 22 = .ok (.getfield 23, 3) := by decide +kernel
theorem dX9_leftNow_25 : decode cX9_leftNow 25 = .ok (.getfield 60, 3) := by decide +kernel
theorem dX9_leftNow_28 : decode cX9_leftNow 28 = .ok (.aload_n 0, 1) := by decide +kernel
theorem dX9_leftNow_29 : decode cX9_leftNow 29 = .ok (.getfield 9, 3) := by decide +kernel
theorem dX9_leftNow_32 : decode cX9_leftNow 32 = .ok (.isub, 1) := by decide +kernel
theorem dX9_leftNow_33 : decode cX9_leftNow 33 = .ok (.isub, 1) := by decide +kernel
theorem dX9_leftNow_34 : decode cX9_leftNow 34 = .ok (.invokestatic 72, 3) := by decide +kernel
theorem dX9_leftNow_37 : decode cX9_leftNow 37 = .ok (.ireturn, 1) := by decide +kernel
theorem dX9_mostAhead_0 : decode cX9_mostAhead 0 = .ok (.iconst 0, 1) := by decide +kernel
theorem dX9_mostAhead_1 : decode cX9_mostAhead 1 = .ok (.istore_n 2, 1) := by decide +kernel
theorem dX9_mostAhead_2 : decode cX9_mostAhead 2 = .ok (.aload_n 0, 1) := by decide +kernel
theorem dX9_mostAhead_3 : decode cX9_mostAhead 3 = .ok (.getfield 23, 3) := by decide +kernel
theorem dX9_mostAhead_6 : decode cX9_mostAhead 6 = .ok (.invokevirtual 78, 3) := by decide +kernel
theorem dX9_mostAhead_9 : decode cX9_mostAhead 9 = .ok (.ifCond .eq 36, 3) := by decide +kernel
theorem dX9_mostAhead_12 : decode cX9_mostAhead 12 = .ok (.aload_n 0, 1) := by decide +kernel
theorem dX9_mostAhead_13 : decode cX9_mostAhead 13 = .ok (.aload_n 0, 1) := by decide +kernel
theorem dX9_mostAhead_14 : decode cX9_mostAhead 14 = .ok (.getfield 23, 3) := by decide +kernel
theorem dX9_mostAhead_17 : decode cX9_mostAhead 17 = .ok (.getfield 53, 3) := by decide +kernel
theorem dX9_mostAhead_20 : decode cX9_mostAhead 20 = .ok (.iconst 1, 1) := by decide +kernel
theorem dX9_mostAhead_21 : decode cX9_mostAhead 21 = .ok (.isub, 1) := by decide +kernel
theorem dX9_mostAhead_22 : decode cX9_mostAhead 22 = .ok (.invokevirtual 50, 3) := by decide +kernel
theorem dX9_mostAhead_25 : decode cX9_mostAhead 25 = .ok (.aload_n 0, 1) := by decide +kernel
theorem dX9_mostAhead_26 : decode cX9_mostAhead 26 = .ok (.getfield 23, 3) := by decide +kernel
theorem dX9_mostAhead_29 : decode cX9_mostAhead 29 = .ok (.aload_n 0, 1) := by decide +kernel
theorem dX9_mostAhead_30 : decode cX9_mostAhead 30 = .ok (.getfield 23, 3) := by decide +kernel
theorem dX9_mostAhead_33 : decode cX9_mostAhead 33 = .ok (.getfield 53, 3) := by decide +kernel
theorem dX9_mostAhead_36 : decode cX9_mostAhead 36 = .ok (.iconst 1, 1) := by decide +kernel
theorem dX9_mostAhead_37 : decode cX9_mostAhead 37 = .ok (.isub, 1) := by decide +kernel
theorem dX9_mostAhead_38 : decode cX9_mostAhead 38 = .ok (.invokevirtual 33, 3) := by decide +kernel
theorem dX9_mostAhead_41 : decode cX9_mostAhead 41 = .ok (.istore_n 2, 1) := by decide +kernel
theorem dX9_mostAhead_42 : decode cX9_mostAhead 42 = .ok (.goto 14, 3) := by decide +kernel
theorem dX9_mostAhead_45 : decode cX9_mostAhead 45 = .ok (.aload_n 0, 1) := by decide +kernel
theorem dX9_mostAhead_46 : decode cX9_mostAhead 46 = .ok (.aload_n 0, 1) := by decide +kernel
theorem dX9_mostAhead_47 : decode cX9_mostAhead 47 = .ok (.getfield 23, 3) := by decide +kernel
theorem dX9_mostAhead_50 : decode cX9_mostAhead 50 = .ok (.getfield 53, 3) := by decide +kernel
theorem dX9_mostAhead_53 : decode cX9_mostAhead 53 = .ok (.invokevirtual 50, 3) := by decide +kernel
theorem dX9_mostAhead_56 : decode cX9_mostAhead 56 = .ok (.aload_n 0, 1) := by decide +kernel
theorem dX9_mostAhead_57 : decode cX9_mostAhead 57 = .ok (.iload_n 2, 1) := by decide +kernel
theorem dX9_mostAhead_58 : decode cX9_mostAhead 58 = .ok (.iload_n 1, 1) := by decide +kernel
theorem dX9_mostAhead_59 : decode cX9_mostAhead 59 = .ok (.invokevirtual 82, 3) := by decide +kernel
theorem dX9_mostAhead_62 : decode cX9_mostAhead 62 = .ok (.istore_n 3, 1) := by decide +kernel
theorem dX9_mostAhead_63 : decode cX9_mostAhead 63 = .ok (.iload_n 3, 1) := by decide +kernel
theorem dX9_mostAhead_64 : decode cX9_mostAhead 64 = .ok (.aload_n 0, 1) := by decide +kernel
theorem dX9_mostAhead_65 : decode cX9_mostAhead 65 = .ok (.aload_n 0, 1) := by decide +kernel
theorem dX9_mostAhead_66 : decode cX9_mostAhead 66 = .ok (.getfield 19, 3) := by decide +kernel
theorem dX9_mostAhead_69 : decode cX9_mostAhead 69 = .ok (.getfield 27, 3) := by decide +kernel
theorem dX9_mostAhead_72 : decode cX9_mostAhead 72 = .ok (.iconst 2, 1) := by decide +kernel
theorem dX9_mostAhead_73 : decode cX9_mostAhead 73 = .ok (.iaload, 1) := by decide +kernel
theorem dX9_mostAhead_74 : decode cX9_mostAhead 74 = .ok (.iload_n 2, 1) := by decide +kernel
theorem dX9_mostAhead_75 : decode cX9_mostAhead 75 = .ok (.iload_n 1, 1) := by decide +kernel
theorem dX9_mostAhead_76 : decode cX9_mostAhead 76 = .ok (.invokevirtual 85, 3) := by decide +kernel
theorem dX9_mostAhead_79 : decode cX9_mostAhead 79 = .ok (.invokestatic 72, 3) := by decide +kernel
theorem dX9_mostAhead_82 : decode cX9_mostAhead 82 = .ok (.istore_n 3, 1) := by decide +kernel
theorem dX9_mostAhead_83 : decode cX9_mostAhead 83 = .ok (.iload_n 3, 1) := by decide +kernel
theorem dX9_mostAhead_84 : decode cX9_mostAhead 84 = .ok (.aload_n 0, 1) := by decide +kernel
theorem dX9_mostAhead_85 : decode cX9_mostAhead 85 = .ok (.aload_n 0, 1) := by decide +kernel
theorem dX9_mostAhead_86 : decode cX9_mostAhead 86 = .ok (.getfield 19, 3) := by decide +kernel
theorem dX9_mostAhead_89 : decode cX9_mostAhead 89 = .ok (.getfield 27, 3) := by decide +kernel
theorem dX9_mostAhead_92 : decode cX9_mostAhead 92 = .ok (.iconst 3, 1) := by decide +kernel
theorem dX9_mostAhead_93 : decode cX9_mostAhead 93 = .ok (.iaload, 1) := by decide +kernel
theorem dX9_mostAhead_94 : decode cX9_mostAhead 94 = .ok (.iload_n 2, 1) := by decide +kernel
theorem dX9_mostAhead_95 : decode cX9_mostAhead 95 = .ok (.iload_n 1, 1) := by decide +kernel
theorem dX9_mostAhead_96 : decode cX9_mostAhead 96 = .ok (.invokevirtual 85, 3) := by decide +kernel
theorem dX9_mostAhead_99 : decode cX9_mostAhead 99 = .ok (.invokestatic 72, 3) := by decide +kernel
theorem dX9_mostAhead_102 : decode cX9_mostAhead 102 = .ok (.istore_n 3, 1) := by decide +kernel
theorem dX9_mostAhead_103 : decode cX9_mostAhead 103 = .ok (.iload_n 3, 1) := by decide +kernel
theorem dX9_mostAhead_104 : decode cX9_mostAhead 104 = .ok (.aload_n 0, 1) := by decide +kernel
theorem dX9_mostAhead_105 : decode cX9_mostAhead 105 = .ok (.aload_n 0, 1) := by decide +kernel
theorem dX9_mostAhead_106 : decode cX9_mostAhead 106 = .ok (.getfield 19, 3) := by decide +kernel
theorem dX9_mostAhead_109 : decode cX9_mostAhead 109 = .ok (.getfield 27, 3) := by decide +kernel
theorem dX9_mostAhead_112 : decode cX9_mostAhead 112 = .ok (.iconst 1, 1) := by decide +kernel
theorem dX9_mostAhead_113 : decode cX9_mostAhead 113 = .ok (.iaload, 1) := by decide +kernel
theorem dX9_mostAhead_114 : decode cX9_mostAhead 114 = .ok (.iload_n 2, 1) := by decide +kernel
theorem dX9_mostAhead_115 : decode cX9_mostAhead 115 = .ok (.iload_n 1, 1) := by decide +kernel
theorem dX9_mostAhead_116 : decode cX9_mostAhead 116 = .ok (.invokevirtual 85, 3) := by decide +kernel
theorem dX9_mostAhead_119 : decode cX9_mostAhead 119 = .ok (.invokestatic 72, 3) := by decide +kernel
theorem dX9_mostAhead_122 : decode cX9_mostAhead 122 = .ok (.ireturn, 1) := by decide +kernel
theorem dX9_mostWithRestTo_0 : decode cX9_mostWithRestTo 0 = .ok (.iconst 0, 1) := by decide +kernel
theorem dX9_mostWithRestTo_1 : decode cX9_mostWithRestTo 1 = .ok (.iload_n 1, 1) := by decide +kernel
theorem dX9_mostWithRestTo_2 : decode cX9_mostWithRestTo 2 = .ok (.iload_n 2, 1) := by decide +kernel
theorem dX9_mostWithRestTo_3 : decode cX9_mostWithRestTo 3 = .ok (.isub, 1) := by decide +kernel
theorem dX9_mostWithRestTo_4 : decode cX9_mostWithRestTo 4 = .ok (.invokestatic 72, 3) := by decide +kernel
theorem dX9_mostWithRestTo_7 : decode cX9_mostWithRestTo 7 = .ok (.istore 4, 2) := by decide +kernel
theorem dX9_mostWithRestTo_9 : decode cX9_mostWithRestTo 9 = .ok (.iload 4, 2) := by decide +kernel
theorem dX9_mostWithRestTo_11 : decode cX9_mostWithRestTo 11 = .ok (.iload_n 3, 1) := by decide +kernel
theorem dX9_mostWithRestTo_12 : decode cX9_mostWithRestTo 12 = .ok (.if_icmp .le 7, 3) := by decide +kernel
theorem dX9_mostWithRestTo_15 : decode cX9_mostWithRestTo 15 = .ok (.iconst 0, 1) := by decide +kernel
theorem dX9_mostWithRestTo_16 : decode cX9_mostWithRestTo 16 = .ok (.goto 15, 3) := by decide +kernel
theorem dX9_mostWithRestTo_19 : decode cX9_mostWithRestTo 19 = .ok (.aload_n 0, 1) := by decide +kernel
theorem dX9_mostWithRestTo_20 : decode cX9_mostWithRestTo 20 = .ok (.iload_n 2, 1) := by decide +kernel
theorem dX9_mostWithRestTo_21 : decode cX9_mostWithRestTo 21 = .ok (.iload 4, 2) := by decide +kernel
theorem dX9_mostWithRestTo_23 : decode cX9_mostWithRestTo 23 = .ok (.iadd, 1) := by decide +kernel
theorem dX9_mostWithRestTo_24 : decode cX9_mostWithRestTo 24 = .ok (.iload_n 3, 1) := by decide +kernel
theorem dX9_mostWithRestTo_25 : decode cX9_mostWithRestTo 25 = .ok (.iload 4, 2) := by decide +kernel
theorem dX9_mostWithRestTo_27 : decode cX9_mostWithRestTo 27 = .ok (.isub, 1) := by decide +kernel
theorem dX9_mostWithRestTo_28 : decode cX9_mostWithRestTo 28 = .ok (.invokevirtual 82, 3) := by decide +kernel
theorem dX9_mostWithRestTo_31 : decode cX9_mostWithRestTo 31 = .ok (.ireturn, 1) := by decide +kernel
theorem dX9_mostBehindRest_0 : decode cX9_mostBehindRest 0 = .ok (.aload_n 0, 1) := by decide +kernel
theorem dX9_mostBehindRest_1 : decode cX9_mostBehindRest 1 = .ok (.getfield 19, 3) := by decide +kernel
theorem dX9_mostBehindRest_4 : decode cX9_mostBehindRest 4 = .ok (.getfield 27, 3) := by decide +kernel
theorem dX9_mostBehindRest_7 : decode cX9_mostBehindRest 7 = .ok (.iconst 0, 1) := by decide +kernel
theorem dX9_mostBehindRest_8 : decode cX9_mostBehindRest 8 = .ok (.iaload, 1) := by decide +kernel
theorem dX9_mostBehindRest_9 : decode cX9_mostBehindRest 9 = .ok (.istore_n 3, 1) := by decide +kernel
theorem dX9_mostBehindRest_10 : decode cX9_mostBehindRest 10 = .ok (.aload_n 0, 1) := by decide +kernel
theorem dX9_mostBehindRest_11 : decode cX9_mostBehindRest 11 = .ok (.iload_n 1, 1) := by decide +kernel
theorem dX9_mostBehindRest_12 : decode cX9_mostBehindRest 12 = .ok (.invokevirtual 39, 3) := by decide +kernel
theorem dX9_mostBehindRest_15 : decode cX9_mostBehindRest 15 = .ok (.ifCond .eq 15, 3) := by decide +kernel
theorem dX9_mostBehindRest_18 : decode cX9_mostBehindRest 18 = .ok (.aload_n 0, 1) := by decide +kernel
theorem dX9_mostBehindRest_19 : decode cX9_mostBehindRest 19 = .ok (.iload_n 3, 1) := by decide +kernel
theorem dX9_mostBehindRest_20 : decode cX9_mostBehindRest 20 = .ok (.aload_n 0, 1) := by decide +kernel
theorem dX9_mostBehindRest_21 : decode cX9_mostBehindRest 21 = .ok (.iload_n 3, 1) := by decide +kernel
theorem dX9_mostBehindRest_22 : decode cX9_mostBehindRest 22 = .ok (.invokevirtual 89, 3) := by decide +kernel
theorem dX9_mostBehindRest_25 : decode cX9_mostBehindRest 25 = .ok (.iload_n 2, 1) := by decide +kernel
theorem dX9_mostBehindRest_26 : decode cX9_mostBehindRest 26 = .ok (.invokevirtual 92, 3) := by decide +kernel
theorem dX9_mostBehindRest_29 : decode cX9_mostBehindRest 29 = .ok (.ireturn, 1) := by decide +kernel
theorem dX9_mostBehindRest_30 : decode cX9_mostBehindRest 30 = .ok (.iload_n 3, 1) := by decide +kernel
theorem dX9_mostBehindRest_31 : decode cX9_mostBehindRest 31 = .ok (.aload_n 0, 1) := by decide +kernel
theorem dX9_mostBehindRest_32 : decode cX9_mostBehindRest 32 = .ok (.getfield 23, 3) := by decide +kernel
theorem dX9_mostBehindRest_35 : decode cX9_mostBehindRest 35 = .ok (.getfield 60, 3) := by decide +kernel
theorem dX9_mostBehindRest_38 : decode cX9_mostBehindRest 38 = .ok (.aload_n 0, 1) := by decide +kernel
theorem dX9_mostBehindRest_39 : decode cX9_mostBehindRest 39 = .ok (.getfield 9, 3) := by decide +kernel
theorem dX9_mostBehindRest_42 : decode cX9_mostBehindRest 42 = .ok (.isub, 1) := by decide +kernel
theorem dX9_mostBehindRest_43 : decode cX9_mostBehindRest 43 = .ok (.isub, 1) := by decide +kernel
theorem dX9_mostBehindRest_44 : decode cX9_mostBehindRest 44 = .ok (.istore 4, 2) := by decide +kernel
theorem dX9_mostBehindRest_46 : decode cX9_mostBehindRest 46 = .ok (.aload_n 0, 1) := by decide +kernel
theorem dX9_mostBehindRest_47 : decode cX9_mostBehindRest 47 = .ok (.getfield 15, 3) := by decide +kernel
theorem dX9_mostBehindRest_50 : decode cX9_mostBehindRest 50 = .ok (.ifCond .ne 16, 3) := by decide +kernel
theorem dX9_mostBehindRest_53 : decode cX9_mostBehindRest 53 = .ok (.iload_n 1, 1) := by decide +kernel
theorem dX9_mostBehindRest_54 : decode cX9_mostBehindRest 54 = .ok (.aload_n 0, 1) := by decide +kernel
theorem dX9_mostBehindRest_55 : decode cX9_mostBehindRest 55 = .ok (.getfield 19, 3) := by decide +kernel
theorem dX9_mostBehindRest_58 : decode cX9_mostBehindRest 58 = .ok (.getfield 27, 3) := by decide +kernel
theorem dX9_mostBehindRest_61 : decode cX9_mostBehindRest 61 = .ok (.iconst 2, 1) := by decide +kernel
theorem dX9_mostBehindRest_62 : decode cX9_mostBehindRest 62 = .ok (.iaload, 1) := by decide +kernel
theorem dX9_mostBehindRest_63 : decode cX9_mostBehindRest 63 = .ok (.if_icmp .lt 32, 3) := by decide +kernel
theorem dX9_mostBehindRest_66 : decode cX9_mostBehindRest 66 = .ok (.aload_n 0, 1) := by decide +kernel
theorem dX9_mostBehindRest_67 : decode cX9_mostBehindRest 67 = .ok (.iload 4, 2) := by decide +kernel
theorem dX9_mostBehindRest_69 : decode cX9_mostBehindRest 69 = .ok (.aload_n 0, 1) := by decide +kernel
theorem dX9_mostBehindRest_70 : decode cX9_mostBehindRest 70 = .ok (.getfield 19, 3) := by decide +kernel
theorem dX9_mostBehindRest_73 : decode cX9_mostBehindRest 73 = .ok (.getfield 27, 3) := by decide +kernel
theorem dX9_mostBehindRest_76 : decode cX9_mostBehindRest 76 = .ok (.iconst 1, 1) := by decide +kernel
theorem dX9_mostBehindRest_77 : decode cX9_mostBehindRest 77 = .ok (.iaload, 1) := by decide +kernel
theorem dX9_mostBehindRest_78 : decode cX9_mostBehindRest 78 = .ok (.aload_n 0, 1) := by decide +kernel
theorem dX9_mostBehindRest_79 : decode cX9_mostBehindRest 79 = .ok (.getfield 19, 3) := by decide +kernel
theorem dX9_mostBehindRest_82 : decode cX9_mostBehindRest 82 = .ok (.getfield 27, 3) := by decide +kernel
theorem dX9_mostBehindRest_85 : decode cX9_mostBehindRest 85 = .ok (.iconst 3, 1) := by decide +kernel
theorem dX9_mostBehindRest_86 : decode cX9_mostBehindRest 86 = .ok (.iaload, 1) := by decide +kernel
theorem dX9_mostBehindRest_87 : decode cX9_mostBehindRest 87 = .ok (.invokestatic 95, 3) := by decide +kernel
theorem dX9_mostBehindRest_90 : decode cX9_mostBehindRest 90 = .ok (.iload_n 2, 1) := by decide +kernel
theorem dX9_mostBehindRest_91 : decode cX9_mostBehindRest 91 = .ok (.invokevirtual 92, 3) := by decide +kernel
theorem dX9_mostBehindRest_94 : decode cX9_mostBehindRest 94 = .ok (.ireturn, 1) := by decide +kernel
theorem dX9_mostBehindRest_95 : decode cX9_mostBehindRest 95 = .ok (.aload_n 0, 1) := by decide +kernel
theorem dX9_mostBehindRest_96 : decode cX9_mostBehindRest 96 = .ok (.iload 4, 2) := by decide +kernel
theorem dX9_mostBehindRest_98 : decode cX9_mostBehindRest 98 = .ok (.aload_n 0, 1) := by decide +kernel
theorem dX9_mostBehindRest_99 : decode cX9_mostBehindRest 99 = .ok (.iload 4, 2) := by decide +kernel
theorem dX9_mostBehindRest_101 : decode cX9_mostBehindRest 101 = .ok (.invokevirtual 89, 3) := by decide +kernel
theorem dX9_mostBehindRest_104 : decode cX9_mostBehindRest 104 = .ok (.iload_n 2, 1) := by decide +kernel
theorem dX9_mostBehindRest_105 : decode cX9_mostBehindRest 105 = .ok (.invokevirtual 92, 3) := by decide +kernel
theorem dX9_mostBehindRest_108 : decode cX9_mostBehindRest 108 = .ok (.ireturn, 1) := by decide +kernel
theorem dX9_breakFrom_0 : decode cX9_breakFrom 0 = .ok (.aload_n 0, 1) := by decide +kernel
theorem dX9_breakFrom_1 : decode cX9_breakFrom 1 = .ok (.getfield 19, 3) := by decide +kernel
theorem dX9_breakFrom_4 : decode cX9_breakFrom 4 = .ok (.getfield 27, 3) := by decide +kernel
theorem dX9_breakFrom_7 : decode cX9_breakFrom 7 = .ok (.iconst 1, 1) := by decide +kernel
theorem dX9_breakFrom_8 : decode cX9_breakFrom 8 = .ok (.iaload, 1) := by decide +kernel
theorem dX9_breakFrom_9 : decode cX9_breakFrom 9 = .ok (.istore_n 2, 1) := by decide +kernel
theorem dX9_breakFrom_10 : decode cX9_breakFrom 10 = .ok (.iload_n 1, 1) := by decide +kernel
theorem dX9_breakFrom_11 : decode cX9_breakFrom 11 = .ok (.iconst 2, 1) := by decide +kernel
theorem dX9_breakFrom_12 : decode cX9_breakFrom 12 = .ok (.if_icmp .ge 7, 3) := by decide +kernel
theorem dX9_breakFrom_15 : decode cX9_breakFrom 15 = .ok (.iload_n 2, 1) := by decide +kernel
theorem dX9_breakFrom_16 : decode cX9_breakFrom 16 = .ok (.goto 26, 3) := by decide +kernel
theorem dX9_breakFrom_19 : decode cX9_breakFrom 19 = .ok (.iload_n 2, 1) := by decide +kernel
theorem dX9_breakFrom_20 : decode cX9_breakFrom 20 = .ok (.aload_n 0, 1) := by decide +kernel
theorem dX9_breakFrom_21 : decode cX9_breakFrom 21 = .ok (.getfield 19, 3) := by decide +kernel
theorem dX9_breakFrom_24 : decode cX9_breakFrom 24 = .ok (.getfield 27, 3) := by decide +kernel
theorem dX9_breakFrom_27 : decode cX9_breakFrom 27 = .ok (.iconst 2, 1) := by decide +kernel
theorem dX9_breakFrom_28 : decode cX9_breakFrom 28 = .ok (.iaload, 1) := by decide +kernel
theorem dX9_breakFrom_29 : decode cX9_breakFrom 29 = .ok (.aload_n 0, 1) := by decide +kernel
theorem dX9_breakFrom_30 : decode cX9_breakFrom 30 = .ok (.getfield 19, 3) := by decide +kernel
theorem dX9_breakFrom_33 : decode cX9_breakFrom 33 = .ok (.getfield 27, 3) := by decide +kernel
theorem dX9_breakFrom_36 : decode cX9_breakFrom 36 = .ok (.iconst 3, 1) := by decide +kernel
theorem dX9_breakFrom_37 : decode cX9_breakFrom 37 = .ok (.iaload, 1) := by decide +kernel
theorem dX9_breakFrom_38 : decode cX9_breakFrom 38 = .ok (.iadd, 1) := by decide +kernel
theorem dX9_breakFrom_39 : decode cX9_breakFrom 39 = .ok (.invokestatic 95, 3) := by decide +kernel
theorem dX9_breakFrom_42 : decode cX9_breakFrom 42 = .ok (.ireturn, 1) := by decide +kernel
theorem dX9_mostInSpells_0 : decode cX9_mostInSpells 0 = .ok (.iload_n 1, 1) := by decide +kernel
theorem dX9_mostInSpells_1 : decode cX9_mostInSpells 1 = .ok (.ifCond .gt 5, 3) := by decide +kernel
theorem dX9_mostInSpells_4 : decode cX9_mostInSpells 4 = .ok (.iconst 0, 1) := by decide +kernel
theorem dX9_mostInSpells_5 : decode cX9_mostInSpells 5 = .ok (.ireturn, 1) := by decide +kernel
theorem dX9_mostInSpells_6 : decode cX9_mostInSpells 6 = .ok (.iload_n 3, 1) := by decide +kernel
theorem dX9_mostInSpells_7 : decode cX9_mostInSpells 7 = .ok (.iload_n 1, 1) := by decide +kernel
theorem dX9_mostInSpells_8 : decode cX9_mostInSpells 8 = .ok (.isub, 1) := by decide +kernel
theorem dX9_mostInSpells_9 : decode cX9_mostInSpells 9 = .ok (.iload_n 2, 1) := by decide +kernel
theorem dX9_mostInSpells_10 : decode cX9_mostInSpells 10 = .ok (.isub, 1) := by decide +kernel
theorem dX9_mostInSpells_11 : decode cX9_mostInSpells 11 = .ok (.istore 4, 2) := by decide +kernel
theorem dX9_mostInSpells_13 : decode cX9_mostInSpells 13 = .ok (.iload 4, 2) := by decide +kernel
theorem dX9_mostInSpells_15 : decode cX9_mostInSpells 15 = .ok (.ifCond .gt 9, 3) := by decide +kernel
theorem dX9_mostInSpells_18 : decode cX9_mostInSpells 18 = .ok (.iload_n 3, 1) := by decide +kernel
theorem dX9_mostInSpells_19 : decode cX9_mostInSpells 19 = .ok (.iload_n 1, 1) := by decide +kernel
theorem dX9_mostInSpells_20 : decode cX9_mostInSpells 20 = .ok (.invokestatic 95, 3) := by decide +kernel
theorem dX9_mostInSpells_23 : decode cX9_mostInSpells 23 = .ok (.ireturn, 1) := by decide +kernel
theorem dX9_mostInSpells_24 : decode cX9_mostInSpells 24 = .ok (.aload_n 0, 1) := by decide +kernel
theorem dX9_mostInSpells_25 : decode cX9_mostInSpells 25 = .ok (.getfield 19, 3) := by decide +kernel
theorem dX9_mostInSpells_28 : decode cX9_mostInSpells 28 = .ok (.getfield 27, 3) := by decide +kernel
theorem dX9_mostInSpells_31 : decode cX9_mostInSpells 31 = .ok (.iconst 0, 1) := by decide +kernel
theorem dX9_mostInSpells_32 : decode cX9_mostInSpells 32 = .ok (.iaload, 1) := by decide +kernel
theorem dX9_mostInSpells_33 : decode cX9_mostInSpells 33 = .ok (.istore 5, 2) := by decide +kernel
theorem dX9_mostInSpells_35 : decode cX9_mostInSpells 35 = .ok (.iconst 1, 1) := by decide +kernel
theorem dX9_mostInSpells_36 : decode cX9_mostInSpells 36 = .ok (.iload 5, 2) := by decide +kernel
theorem dX9_mostInSpells_38 : decode cX9_mostInSpells 38 = .ok (.aload_n 0, 1) := by decide +kernel
theorem dX9_mostInSpells_39 : decode cX9_mostInSpells 39 = .ok (.iload 5, 2) := by decide +kernel
theorem dX9_mostInSpells_41 : decode cX9_mostInSpells 41 = .ok (.invokevirtual 89, 3) := by decide +kernel
theorem dX9_mostInSpells_44 : decode cX9_mostInSpells 44 = .ok (.iadd, 1) := by decide +kernel
theorem dX9_mostInSpells_45 : decode cX9_mostInSpells 45 = .ok (.invokestatic 72, 3) := by decide +kernel
theorem dX9_mostInSpells_48 : decode cX9_mostInSpells 48 = .ok (.istore 6, 2) := by decide +kernel
theorem dX9_mostInSpells_50 : decode cX9_mostInSpells 50 = .ok (.iload_n 1, 1) := by decide +kernel
theorem dX9_mostInSpells_51 : decode cX9_mostInSpells 51 = .ok (.iload 4, 2) := by decide +kernel
theorem dX9_mostInSpells_53 : decode cX9_mostInSpells 53 = .ok (.iload 6, 2) := by decide +kernel
theorem dX9_mostInSpells_55 : decode cX9_mostInSpells 55 = .ok (.idiv, 1) := by decide +kernel
theorem dX9_mostInSpells_56 : decode cX9_mostInSpells 56 = .ok (.iload 5, 2) := by decide +kernel
theorem dX9_mostInSpells_58 : decode cX9_mostInSpells 58 = .ok (.imul, 1) := by decide +kernel
theorem dX9_mostInSpells_59 : decode cX9_mostInSpells 59 = .ok (.iadd, 1) := by decide +kernel
theorem dX9_mostInSpells_60 : decode cX9_mostInSpells 60 = .ok (.iload 4, 2) := by decide +kernel
theorem dX9_mostInSpells_62 : decode cX9_mostInSpells 62 = .ok (.iload 6, 2) := by decide +kernel
theorem dX9_mostInSpells_64 : decode cX9_mostInSpells 64 = .ok (.irem, 1) := by decide +kernel
theorem dX9_mostInSpells_65 : decode cX9_mostInSpells 65 = .ok (.iload 5, 2) := by decide +kernel
theorem dX9_mostInSpells_67 : decode cX9_mostInSpells 67 = .ok (.invokestatic 95, 3) := by decide +kernel
theorem dX9_mostInSpells_70 : decode cX9_mostInSpells 70 = .ok (.iadd, 1) := by decide +kernel
theorem dX9_mostInSpells_71 : decode cX9_mostInSpells 71 = .ok (.ireturn, 1) := by decide +kernel
theorem dX10_init_0 : decode cX10_init 0 = .ok (.aload_n 0, 1) := by decide +kernel
theorem dX10_init_1 : decode cX10_init 1 = .ok (.invokespecial 1, 3) := by decide +kernel
theorem dX10_init_4 : decode cX10_init 4 = .ok (.aload_n 0, 1) := by decide +kernel
theorem dX10_init_5 : decode cX10_init 5 = .ok (.new 7, 3) := by decide +kernel
theorem dX10_init_8 : decode cX10_init 8 = .ok (.dup, 1) := by decide +kernel
theorem dX10_init_9 : decode cX10_init 9 = .ok (.invokespecial 9, 3) := by decide +kernel
theorem dX10_init_12 : decode cX10_init 12 = .ok (.putfield 10, 3) := by decide +kernel
theorem dX10_init_15 : decode cX10_init 15 = .ok (.aload_n 0, 1) := by decide +kernel
theorem dX10_init_16 : decode cX10_init 16 = .ok (.new 16, 3) := by decide +kernel
theorem dX10_init_19 : decode cX10_init 19 = .ok (.dup, 1) := by decide +kernel
theorem dX10_init_20 : decode cX10_init 20 = .ok (.invokespecial 18, 3) := by decide +kernel
theorem dX10_init_23 : decode cX10_init 23 = .ok (.putfield 19, 3) := by decide +kernel
theorem dX10_init_26 : decode cX10_init 26 = .ok (.aload_n 0, 1) := by decide +kernel
theorem dX10_init_27 : decode cX10_init 27 = .ok (.iconst 4, 1) := by decide +kernel
theorem dX10_init_28 : decode cX10_init 28 = .ok (.anewarray 23, 3) := by decide +kernel
theorem dX10_init_31 : decode cX10_init 31 = .ok (.putfield 25, 3) := by decide +kernel
theorem dX10_init_34 : decode cX10_init 34 = .ok (.iconst 0, 1) := by decide +kernel
theorem dX10_init_35 : decode cX10_init 35 = .ok (.istore_n 1, 1) := by decide +kernel
theorem dX10_init_36 : decode cX10_init 36 = .ok (.iload_n 1, 1) := by decide +kernel
theorem dX10_init_37 : decode cX10_init 37 = .ok (.iconst 4, 1) := by decide +kernel
theorem dX10_init_38 : decode cX10_init 38 = .ok (.if_icmp .ge 22, 3) := by decide +kernel
theorem dX10_init_41 : decode cX10_init 41 = .ok (.aload_n 0, 1) := by decide +kernel
theorem dX10_init_42 : decode cX10_init 42 = .ok (.getfield 25, 3) := by decide +kernel
theorem dX10_init_45 : decode cX10_init 45 = .ok (.iload_n 1, 1) := by decide +kernel
theorem dX10_init_46 : decode cX10_init 46 = .ok (.new 23, 3) := by decide +kernel
theorem dX10_init_49 : decode cX10_init 49 = .ok (.dup, 1) := by decide +kernel
theorem dX10_init_50 : decode cX10_init 50 = .ok (.invokespecial 29, 3) := by decide +kernel
theorem dX10_init_53 : decode cX10_init 53 = .ok (.aastore, 1) := by decide +kernel
theorem dX10_init_54 : decode cX10_init 54 = .ok (.iinc 1 1, 3) := by decide +kernel
theorem dX10_init_57 : decode cX10_init 57 = .ok (.goto (-21), 3) := by decide +kernel
theorem dX10_init_60 : decode cX10_init 60 = .ok (.aload_n 0, 1) := by decide +kernel
theorem dX10_init_61 : decode cX10_init 61 = .ok (.iconst 2, 1) := by decide +kernel
theorem dX10_init_62 : decode cX10_init 62 = .ok (.anewarray 30, 3) := by decide +kernel
theorem dX10_init_65 : decode cX10_init 65 = .ok (.putfield 32, 3) := by decide +kernel
theorem dX10_init_68 : decode cX10_init 68 = .ok (.iconst 0, 1) := by decide +kernel
theorem dX10_init_69 : decode cX10_init 69 = .ok (.istore_n 1, 1) := by decide +kernel
theorem dX10_init_70 : decode cX10_init 70 = .ok (.iload_n 1, 1) := by decide +kernel
theorem dX10_init_71 : decode cX10_init 71 = .ok (.iconst 2, 1) := by decide +kernel
theorem dX10_init_72 : decode cX10_init 72 = .ok (.if_icmp .ge 22, 3) := by decide +kernel
theorem dX10_init_75 : decode cX10_init 75 = .ok (.aload_n 0, 1) := by decide +kernel
theorem dX10_init_76 : decode cX10_init 76 = .ok (.getfield 32, 3) := by decide +kernel
theorem dX10_init_79 : decode cX10_init 79 = .ok (.iload_n 1, 1) := by decide +kernel
theorem dX10_init_80 : decode cX10_init 80 = .ok (.new 30, 3) := by decide +kernel
theorem dX10_init_83 : decode cX10_init 83 = .ok (.dup, 1) := by decide +kernel
theorem dX10_init_84 : decode cX10_init 84 = .ok (.invokespecial 36, 3) := by decide +kernel
theorem dX10_init_87 : decode cX10_init 87 = .ok (.aastore, 1) := by decide +kernel
theorem dX10_init_88 : decode cX10_init 88 = .ok (.iinc 1 1, 3) := by decide +kernel
theorem dX10_init_91 : decode cX10_init 91 = .ok (.goto (-21), 3) := by decide +kernel
theorem dX10_init_94 : decode cX10_init 94 = .ok (.aload_n 0, 1) := by decide +kernel
theorem dX10_init_95 : decode cX10_init 95 = .ok (.new 37, 3) := by decide +kernel
theorem dX10_init_98 : decode cX10_init 98 = .ok (.dup, 1) := by decide +kernel
theorem dX10_init_99 : decode cX10_init 99 = .ok (.invokespecial 39, 3) := by decide +kernel
theorem dX10_init_102 : decode cX10_init 102 = .ok (.putfield 40, 3) := by decide +kernel
theorem dX10_init_105 : decode cX10_init 105 = .ok (.aload_n 0, 1) := by decide +kernel
theorem dX10_init_106 : decode cX10_init 106 = .ok (.new 44, 3) := by decide +kernel
theorem dX10_init_109 : decode cX10_init 109 = .ok (.dup, 1) := by decide +kernel
theorem dX10_init_110 : decode cX10_init 110 = .ok (.aload_n 0, 1) := by decide +kernel
theorem dX10_init_111 : decode cX10_init 111 = .ok (.getfield 19, 3) := by decide +kernel
theorem dX10_init_114 : decode cX10_init 114 = .ok (.aload_n 0, 1) := by decide +kernel
theorem dX10_init_115 : decode cX10_init 115 = .ok (.getfield 40, 3) := by decide +kernel
theorem dX10_init_118 : decode cX10_init 118 = .ok (.invokespecial 46, 3) := by decide +kernel
theorem dX10_init_121 : decode cX10_init 121 = .ok (.putfield 49, 3) := by decide +kernel
theorem dX10_init_124 : decode cX10_init 124 = .ok (.aload_n 0, 1) := by decide +kernel
theorem dX10_init_125 : decode cX10_init 125 = .ok (.new 53, 3) := by decide +kernel
theorem dX10_init_128 : decode cX10_init 128 = .ok (.dup, 1) := by decide +kernel
theorem dX10_init_129 : decode cX10_init 129 = .ok (.invokespecial 55, 3) := by decide +kernel
theorem dX10_init_132 : decode cX10_init 132 = .ok (.putfield 56, 3) := by decide +kernel
theorem dX10_init_135 : decode cX10_init 135 = .ok (.aload_n 0, 1) := by decide +kernel
theorem dX10_init_136 : decode cX10_init 136 = .ok (.new 60, 3) := by decide +kernel
theorem dX10_init_139 : decode cX10_init 139 = .ok (.dup, 1) := by decide +kernel
theorem dX10_init_140 : decode cX10_init 140 = .ok (.aload_n 0, 1) := by decide +kernel
theorem dX10_init_141 : decode cX10_init 141 = .ok (.getfield 19, 3) := by decide +kernel
theorem dX10_init_144 : decode cX10_init 144 = .ok (.aload_n 0, 1) := by decide +kernel
theorem dX10_init_145 : decode cX10_init 145 = .ok (.getfield 40, 3) := by decide +kernel
theorem dX10_init_148 : decode cX10_init 148 = .ok (.aload_n 0, 1) := by decide +kernel
theorem dX10_init_149 : decode cX10_init 149 = .ok (.getfield 56, 3) := by decide +kernel
theorem dX10_init_152 : decode cX10_init 152 = .ok (.invokespecial 62, 3) := by decide +kernel
theorem dX10_init_155 : decode cX10_init 155 = .ok (.putfield 65, 3) := by decide +kernel
theorem dX10_init_158 : decode cX10_init 158 = .ok (.aload_n 0, 1) := by decide +kernel
theorem dX10_init_159 : decode cX10_init 159 = .ok (.new 69, 3) := by decide +kernel
theorem dX10_init_162 : decode cX10_init 162 = .ok (.dup, 1) := by decide +kernel
theorem dX10_init_163 : decode cX10_init 163 = .ok (.invokespecial 71, 3) := by decide +kernel
theorem dX10_init_166 : decode cX10_init 166 = .ok (.putfield 72, 3) := by decide +kernel
theorem dX10_init_169 : decode cX10_init 169 = .ok (.aload_n 0, 1) := by decide +kernel
theorem dX10_init_170 : decode cX10_init 170 = .ok (.new 76, 3) := by decide +kernel
theorem dX10_init_173 : decode cX10_init 173 = .ok (.dup, 1) := by decide +kernel
theorem dX10_init_174 : decode cX10_init 174 = .ok (.invokespecial 78, 3) := by decide +kernel
theorem dX10_init_177 : decode cX10_init 177 = .ok (.putfield 79, 3) := by decide +kernel
theorem dX10_init_180 : decode cX10_init 180 = .ok (.return_, 1) := by decide +kernel
theorem dX10_feed_0 : decode cX10_feed 0 = .ok (.aload_n 0, 1) := by decide +kernel
theorem dX10_feed_1 : decode cX10_feed 1 = .ok (.getfield 10, 3) := by decide +kernel
theorem dX10_feed_4 : decode cX10_feed 4 = .ok (.invokevirtual 83, 3) := by decide +kernel
theorem dX10_feed_7 : decode cX10_feed 7 = .ok (.ifCond .ne 5, 3) := by decide +kernel
theorem dX10_feed_10 : decode cX10_feed 10 = .ok (.iconst (-1), 1) := by decide +kernel
theorem dX10_feed_11 : decode cX10_feed 11 = .ok (.ireturn, 1) := by decide +kernel
theorem dX10_feed_12 : decode cX10_feed 12 = .ok (.aload_n 0, 1) := by decide +kernel
theorem dX10_feed_13 : decode cX10_feed 13 = .ok (.getfield 10, 3) := by decide +kernel
theorem dX10_feed_16 : decode cX10_feed 16 = .ok (.iload_n 1, 1) := by decide +kernel
theorem dX10_feed_17 : decode cX10_feed 17 = .ok (.invokevirtual 87, 3) := by decide +kernel
theorem dX10_feed_20 : decode cX10_feed 20 = .ok (.aload_n 0, 1) := by decide +kernel
theorem dX10_feed_21 : decode cX10_feed 21 = .ok (.getfield 10, 3) := by decide +kernel
theorem dX10_feed_24 : decode cX10_feed 24 = .ok (.iload_n 2, 1) := by decide +kernel
theorem dX10_feed_25 : decode cX10_feed 25 = .ok (.invokevirtual 87, 3) := by decide +kernel
theorem dX10_feed_28 : decode cX10_feed 28 = .ok (.aload_n 0, 1) := by decide +kernel
theorem dX10_feed_29 : decode cX10_feed 29 = .ok (.getfield 10, 3) := by decide +kernel
theorem dX10_feed_32 : decode cX10_feed 32 = .ok (.iload_n 3, 1) := by decide +kernel
theorem dX10_feed_33 : decode cX10_feed 33 = .ok (.invokevirtual 87, 3) := by decide +kernel
theorem dX10_feed_36 : decode cX10_feed 36 = .ok (.aload_n 0, 1) := by decide +kernel
theorem dX10_feed_37 : decode cX10_feed 37 = .ok (.getfield 10, 3) := by decide +kernel
theorem dX10_feed_40 : decode cX10_feed 40 = .ok (.iload 4, 2) := by decide +kernel
theorem dX10_feed_42 : decode cX10_feed 42 = .ok (.invokevirtual 87, 3) := by decide +kernel
theorem dX10_feed_45 : decode cX10_feed 45 = .ok (.aload_n 0, 1) := by decide +kernel
theorem dX10_feed_46 : decode cX10_feed 46 = .ok (.getfield 10, 3) := by decide +kernel
theorem dX10_feed_49 : decode cX10_feed 49 = .ok (.iload 5, 2) := by decide +kernel
theorem dX10_feed_51 : decode cX10_feed 51 = .ok (.invokevirtual 87, 3) := by decide +kernel
theorem dX10_feed_54 : decode cX10_feed 54 = .ok (.aload_n 0, 1) := by decide +kernel
theorem dX10_feed_55 : decode cX10_feed 55 = .ok (.getfield 10, 3) := by decide +kernel
theorem dX10_feed_58 : decode cX10_feed 58 = .ok (.getfield 91, 3) := by decide +kernel
theorem dX10_feed_61 : decode cX10_feed 61 = .ok (.ireturn, 1) := by decide +kernel
theorem dX10_law_0 : decode cX10_law 0 = .ok (.iload_n 1, 1) := by decide +kernel
theorem dX10_law_1 : decode cX10_law 1 = .ok (.ifCond .lt 14, 3) := by decide +kernel
theorem dX10_law_4 : decode cX10_law 4 = .ok (.iload_n 1, 1) := by decide +kernel
theorem dX10_law_5 : decode cX10_law 5 = .ok (.aload_n 0, 1) := by decide +kernel
theorem dX10_law_6 : decode cX10_law 6 = .ok (.getfield 10, 3) := by decide +kernel
theorem dX10_law_9 : decode cX10_law 9 = .ok (.getfield 91, 3) := by decide +kernel
theorem dX10_law_12 : decode cX10_law 12 = .ok (.if_icmp .le 5, 3) := by decide +kernel
theorem dX10_law_15 : decode cX10_law 15 = .ok (.iconst (-1), 1) := by decide +kernel
theorem dX10_law_16 : decode cX10_law 16 = .ok (.ireturn, 1) := by decide +kernel
theorem dX10_law_17 : decode cX10_law 17 = .ok (.aload_n 0, 1) := by decide +kernel
theorem dX10_law_18 : decode cX10_law 18 = .ok (.getfield 10, 3) := by decide +kernel
theorem dX10_law_21 : decode cX10_law 21 = .ok (.iconst 0, 1) := by decide +kernel
theorem dX10_law_22 : decode cX10_law 22 = .ok (.putfield 91, 3) := by decide +kernel
theorem dX10_law_25 : decode cX10_law 25 = .ok (.aload_n 0, 1) := by decide +kernel
theorem dX10_law_26 : decode cX10_law 26 = .ok (.getfield 19, 3) := by decide +kernel
theorem dX10_law_29 : decode cX10_law 29 = .ok (.aload_n 0, 1) := by decide +kernel
theorem dX10_law_30 : decode cX10_law 30 = .ok (.getfield 10, 3) := by decide +kernel
theorem dX10_law_33 : decode cX10_law 33 = .ok (.getfield 95, 3) := by decide +kernel
theorem dX10_law_36 : decode cX10_law 36 = .ok (.iload_n 1, 1) := by decide +kernel
theorem dX10_law_37 : decode cX10_law 37 = .ok (.invokevirtual 99, 3) := by decide +kernel
theorem dX10_law_40 : decode cX10_law 40 = .ok (.ireturn, 1) := by decide +kernel
theorem dX10_rule_0 : decode cX10_rule 0 = .ok (.iload_n 1, 1) := by decide +kernel
theorem dX10_rule_1 : decode cX10_rule 1 = .ok (.invokestatic 103, 3) := by decide +kernel
theorem dX10_rule_4 : decode cX10_rule 4 = .ok (.istore_n 2, 1) := by decide +kernel
theorem dX10_rule_5 : decode cX10_rule 5 = .ok (.iload_n 2, 1) := by decide +kernel
theorem dX10_rule_6 : decode cX10_rule 6 = .ok (.iconst (-1), 1) := by decide +kernel
theorem dX10_rule_7 : decode cX10_rule 7 = .ok (.if_icmp .ne 7, 3) := by decide +kernel
theorem dX10_rule_10 : decode cX10_rule 10 = .ok (.iconst (-1), 1) := by decide +kernel
theorem dX10_rule_11 : decode cX10_rule 11 = .ok (.goto 12, 3) := by decide +kernel
theorem dX10_rule_14 : decode cX10_rule 14 = .ok (.aload_n 0, 1) := by decide +kernel
theorem dX10_rule_15 : decode cX10_rule 15 = .ok (.getfield 19, 3) := by decide +kernel
theorem dX10_rule_18 : decode cX10_rule 18 = .ok (.getfield 107, 3) := by decide +kernel
theorem dX10_rule_21 : decode cX10_rule 21 = .ok (.iload_n 2, 1) := by decide +kernel
theorem dX10_rule_22 : decode cX10_rule 22 = .ok (.iaload, 1) := by decide +kernel
theorem dX10_rule_23 : decode cX10_rule 23 = .ok (.ireturn, 1) := by decide +kernel
theorem dX10_act_0 : decode cX10_act 0 = .ok (.aload_n 0, 1) := by decide +kernel
theorem dX10_act_1 : decode cX10_act 1 = .ok (.iload_n 1, 1) := by decide +kernel
theorem dX10_act_2 : decode cX10_act 2 = .ok (.invokevirtual 110, 3) := by decide +kernel
theorem dX10_act_5 : decode cX10_act 5 = .ok (.astore 5, 2) := by decide +kernel
theorem dX10_act_7 : decode cX10_act 7 = .ok (.aload 5, 2) := by decide +kernel
theorem dX10_act_9 : decode cX10_act 9 = .ok (.ifnull 21, 3) := by decide +kernel
theorem dX10_act_12 : decode cX10_act 12 = .ok (.iload_n 2, 1) := by decide +kernel
theorem dX10_act_13 : decode cX10_act 13 = .ok (.iload 4, 2) := by decide +kernel
theorem dX10_act_15 : decode cX10_act 15 = .ok (.invokestatic 114, 3) := by decide +kernel
theorem dX10_act_18 : decode cX10_act 18 = .ok (.ifCond .eq 12, 3) := by decide +kernel
theorem dX10_act_21 : decode cX10_act 21 = .ok (.aload 5, 2) := by decide +kernel
theorem dX10_act_23 : decode cX10_act 23 = .ok (.iload_n 3, 1) := by decide +kernel
theorem dX10_act_24 : decode cX10_act 24 = .ok (.invokevirtual 118, 3) := by decide +kernel
theorem dX10_act_27 : decode cX10_act 27 = .ok (.ifCond .ne 5, 3) := by decide +kernel
theorem dX10_act_30 : decode cX10_act 30 = .ok (.iconst (-1), 1) := by decide +kernel
theorem dX10_act_31 : decode cX10_act 31 = .ok (.ireturn, 1) := by decide +kernel
theorem dX10_act_32 : decode cX10_act 32 = .ok (.aload 5, 2) := by decide +kernel
theorem dX10_act_34 : decode cX10_act 34 = .ok (.iload_n 2, 1) := by decide +kernel
theorem dX10_act_35 : decode cX10_act 35 = .ok (.iload_n 3, 1) := by decide +kernel
theorem dX10_act_36 : decode cX10_act 36 = .ok (.iload 4, 2) := by decide +kernel
theorem dX10_act_38 : decode cX10_act 38 = .ok (.invokevirtual 121, 3) := by decide +kernel
theorem dX10_act_41 : decode cX10_act 41 = .ok (.ireturn, 1) := by decide +kernel
theorem dX10_put_0 : decode cX10_put 0 = .ok (.aload_n 0, 1) := by decide +kernel
theorem dX10_put_1 : decode cX10_put 1 = .ok (.iload_n 1, 1) := by decide +kernel
theorem dX10_put_2 : decode cX10_put 2 = .ok (.invokevirtual 110, 3) := by decide +kernel
theorem dX10_put_5 : decode cX10_put 5 = .ok (.astore 5, 2) := by decide +kernel
theorem dX10_put_7 : decode cX10_put 7 = .ok (.aload 5, 2) := by decide +kernel
theorem dX10_put_9 : decode cX10_put 9 = .ok (.ifnull 21, 3) := by decide +kernel
theorem dX10_put_12 : decode cX10_put 12 = .ok (.aload 5, 2) := by decide +kernel
theorem dX10_put_14 : decode cX10_put 14 = .ok (.iload_n 2, 1) := by decide +kernel
theorem dX10_put_15 : decode cX10_put 15 = .ok (.invokevirtual 124, 3) := by decide +kernel
theorem dX10_put_18 : decode cX10_put 18 = .ok (.ifCond .eq 12, 3) := by decide +kernel
theorem dX10_put_21 : decode cX10_put 21 = .ok (.iload_n 3, 1) := by decide +kernel
theorem dX10_put_22 : decode cX10_put 22 = .ok (.iload 4, 2) := by decide +kernel
theorem dX10_put_24 : decode cX10_put 24 = .ok (.invokestatic 114, 3) := by decide +kernel
theorem dX10_put_27 : decode cX10_put 27 = .ok (.ifCond .ne 5, 3) := by decide +kernel
theorem dX10_put_30 : decode cX10_put 30 = .ok (.iconst 0, 1) := by decide +kernel
theorem dX10_put_31 : decode cX10_put 31 = .ok (.ireturn, 1) := by decide +kernel
theorem dX10_put_32 : decode cX10_put 32 = .ok (.aload 5, 2) := by decide +kernel
theorem dX10_put_34 : decode cX10_put 34 = .ok (.iload_n 2, 1) := by decide +kernel
theorem dX10_put_35 : decode cX10_put 35 = .ok (.iload_n 3, 1) := by decide +kernel
theorem dX10_put_36 : decode cX10_put 36 = .ok (.iload 4, 2) := by decide +kernel
theorem dX10_put_38 : decode cX10_put 38 = .ok (.invokevirtual 127, 3) := by decide +kernel
theorem dX10_put_41 : decode cX10_put 41 = .ok (.iconst 1, 1) := by decide +kernel
theorem dX10_put_42 : decode cX10_put 42 = .ok (.ireturn, 1) := by decide +kernel
theorem dX10_trip_0 : decode cX10_trip 0 = .ok (.aload_n 0, 1) := by decide +kernel
theorem dX10_trip_1 : decode cX10_trip 1 = .ok (.iload_n 1, 1) := by decide +kernel
theorem dX10_trip_2 : decode cX10_trip 2 = .ok (.invokevirtual 131, 3) := by decide +kernel
theorem dX10_trip_5 : decode cX10_trip 5 = .ok (.astore 4, 2) := by decide +kernel
theorem dX10_trip_7 : decode cX10_trip 7 = .ok (.aload 4, 2) := by decide +kernel
theorem dX10_trip_9 : decode cX10_trip 9 = .ok (.ifnull 19, 3) := by decide +kernel
theorem dX10_trip_12 : decode cX10_trip 12 = .ok (.iload_n 2, 1) := by decide +kernel
theorem dX10_trip_13 : decode cX10_trip 13 = .ok (.ifCond .lt 15, 3) := by decide +kernel
theorem dX10_trip_16 : decode cX10_trip 16 = .ok (.iload_n 2, 1) := by decide +kernel
theorem dX10_trip_17 : decode cX10_trip 17 = .ok (.iload_n 3, 1) := by decide +kernel
theorem dX10_trip_18 : decode cX10_trip 18 = .ok (.if_icmp .ge 10, 3) := by decide +kernel
theorem dX10_trip_21 : decode cX10_trip 21 = .ok (.iload_n 3, 1) := by decide +kernel
theorem dX10_trip_22 : decode cX10_trip 22 = .ok (.sipush 20160, 3) := by decide +kernel
theorem dX10_trip_25 : decode cX10_trip 25 = .ok (.if_icmp .le 5, 3) := by decide +kernel
theorem dX10_trip_28 : decode cX10_trip 28 = .ok (.iconst 0, 1) := by decide +kernel
theorem dX10_trip_29 : decode cX10_trip 29 = .ok (.ireturn, 1) := by decide +kernel
theorem dX10_trip_30 : decode cX10_trip 30 = .ok (.aload 4, 2) := by decide +kernel
theorem dX10_trip_32 : decode cX10_trip 32 = .ok (.iload_n 2, 1) := by decide +kernel
theorem dX10_trip_33 : decode cX10_trip 33 = .ok (.iload_n 3, 1) := by decide +kernel
theorem dX10_trip_34 : decode cX10_trip 34 = .ok (.invokevirtual 135, 3) := by decide +kernel
theorem dX10_trip_37 : decode cX10_trip 37 = .ok (.ireturn, 1) := by decide +kernel
theorem dX10_breaches_0 : decode cX10_breaches 0 = .ok (.aload_n 0, 1) := by decide +kernel
theorem dX10_breaches_1 : decode cX10_breaches 1 = .ok (.iload_n 1, 1) := by decide +kernel
theorem dX10_breaches_2 : decode cX10_breaches 2 = .ok (.invokevirtual 110, 3) := by decide +kernel
theorem dX10_breaches_5 : decode cX10_breaches 5 = .ok (.astore_n 3, 1) := by decide +kernel
theorem dX10_breaches_6 : decode cX10_breaches 6 = .ok (.aload_n 3, 1) := by decide +kernel
theorem dX10_breaches_7 : decode cX10_breaches 7 = .ok (.ifnonnull 5, 3) := by decide +kernel
theorem dX10_breaches_10 : decode cX10_breaches 10 = .ok (.iconst (-1), 1) := by decide +kernel
theorem dX10_breaches_11 : decode cX10_breaches 11 = .ok (.ireturn, 1) := by decide +kernel
theorem dX10_breaches_12 : decode cX10_breaches 12 = .ok (.aload_n 0, 1) := by decide +kernel
theorem dX10_breaches_13 : decode cX10_breaches 13 = .ok (.aload_n 3, 1) := by decide +kernel
theorem dX10_breaches_14 : decode cX10_breaches 14 = .ok (.iload_n 2, 1) := by decide +kernel
theorem dX10_breaches_15 : decode cX10_breaches 15 = .ok (.invokevirtual 138, 3) := by decide +kernel
theorem dX10_breaches_18 : decode cX10_breaches 18 = .ok (.aload_n 0, 1) := by decide +kernel
theorem dX10_breaches_19 : decode cX10_breaches 19 = .ok (.invokevirtual 142, 3) := by decide +kernel
theorem dX10_breaches_22 : decode cX10_breaches 22 = .ok (.aload_n 0, 1) := by decide +kernel
theorem dX10_breaches_23 : decode cX10_breaches 23 = .ok (.getfield 72, 3) := by decide +kernel
theorem dX10_breaches_26 : decode cX10_breaches 26 = .ok (.getfield 145, 3) := by decide +kernel
theorem dX10_breaches_29 : decode cX10_breaches 29 = .ok (.ireturn, 1) := by decide +kernel
theorem dX10_breach_0 : decode cX10_breach 0 = .ok (.aload_n 0, 1) := by decide +kernel
theorem dX10_breach_1 : decode cX10_breach 1 = .ok (.iload_n 1, 1) := by decide +kernel
theorem dX10_breach_2 : decode cX10_breach 2 = .ok (.invokevirtual 110, 3) := by decide +kernel
theorem dX10_breach_5 : decode cX10_breach 5 = .ok (.astore 5, 2) := by decide +kernel
theorem dX10_breach_7 : decode cX10_breach 7 = .ok (.aload 5, 2) := by decide +kernel
theorem dX10_breach_9 : decode cX10_breach 9 = .ok (.ifnonnull 5, 3) := by decide +kernel
theorem dX10_breach_12 : decode cX10_breach 12 = .ok (.iconst (-1), 1) := by decide +kernel
theorem dX10_breach_13 : decode cX10_breach 13 = .ok (.ireturn, 1) := by decide +kernel
theorem dX10_breach_14 : decode cX10_breach 14 = .ok (.aload_n 0, 1) := by decide +kernel
theorem dX10_breach_15 : decode cX10_breach 15 = .ok (.aload 5, 2) := by decide +kernel
theorem dX10_breach_17 : decode cX10_breach 17 = .ok (.iload_n 2, 1) := by decide +kernel
theorem dX10_breach_18 : decode cX10_breach 18 = .ok (.invokevirtual 138, 3) := by decide +kernel
theorem dX10_breach_21 : decode cX10_breach 21 = .ok (.aload_n 0, 1) := by decide +kernel
theorem dX10_breach_22 : decode cX10_breach 22 = .ok (.invokevirtual 142, 3) := by decide +kernel
theorem dX10_breach_25 : decode cX10_breach 25 = .ok (.aload_n 0, 1) := by decide +kernel
theorem dX10_breach_26 : decode cX10_breach 26 = .ok (.getfield 72, 3) := by decide +kernel
theorem dX10_breach_29 : decode cX10_breach 29 = .ok (.iload_n 3, 1) := by decide +kernel
theorem dX10_breach_30 : decode cX10_breach 30 = .ok (.iload 4, 2) := by decide +kernel
theorem dX10_breach_32 : decode cX10_breach 32 = .ok (.invokevirtual 146, 3) := by decide +kernel
theorem dX10_breach_35 : decode cX10_breach 35 = .ok (.ireturn, 1) := by decide +kernel
theorem dX10_weight_0 : decode cX10_weight 0 = .ok (.aload_n 0, 1) := by decide +kernel
theorem dX10_weight_1 : decode cX10_weight 1 = .ok (.iload_n 1, 1) := by decide +kernel
theorem dX10_weight_2 : decode cX10_weight 2 = .ok (.invokevirtual 110, 3) := by decide +kernel
theorem dX10_weight_5 : decode cX10_weight 5 = .ok (.astore_n 3, 1) := by decide +kernel
theorem dX10_weight_6 : decode cX10_weight 6 = .ok (.aload_n 3, 1) := by decide +kernel
theorem dX10_weight_7 : decode cX10_weight 7 = .ok (.ifnonnull 5, 3) := by decide +kernel
theorem dX10_weight_10 : decode cX10_weight 10 = .ok (.iconst (-1), 1) := by decide +kernel
theorem dX10_weight_11 : decode cX10_weight 11 = .ok (.ireturn, 1) := by decide +kernel
theorem dX10_weight_12 : decode cX10_weight 12 = .ok (.aload_n 0, 1) := by decide +kernel
theorem dX10_weight_13 : decode cX10_weight 13 = .ok (.aload_n 3, 1) := by decide +kernel
theorem dX10_weight_14 : decode cX10_weight 14 = .ok (.iload_n 2, 1) := by decide +kernel
theorem dX10_weight_15 : decode cX10_weight 15 = .ok (.invokevirtual 138, 3) := by decide +kernel
theorem dX10_weight_18 : decode cX10_weight 18 = .ok (.aload_n 0, 1) := by decide +kernel
theorem dX10_weight_19 : decode cX10_weight 19 = .ok (.getfield 56, 3) := by decide +kernel
theorem dX10_weight_22 : decode cX10_weight 22 = .ok (.invokevirtual 149, 3) := by decide +kernel
theorem dX10_weight_25 : decode cX10_weight 25 = .ok (.ireturn, 1) := by decide +kernel
theorem dX10_day_0 : decode cX10_day 0 = .ok (.aload_n 0, 1) := by decide +kernel
theorem dX10_day_1 : decode cX10_day 1 = .ok (.iload_n 1, 1) := by decide +kernel
theorem dX10_day_2 : decode cX10_day 2 = .ok (.invokevirtual 110, 3) := by decide +kernel
theorem dX10_day_5 : decode cX10_day 5 = .ok (.astore 5, 2) := by decide +kernel
theorem dX10_day_7 : decode cX10_day 7 = .ok (.aload 5, 2) := by decide +kernel
theorem dX10_day_9 : decode cX10_day 9 = .ok (.ifnonnull 5, 3) := by decide +kernel
theorem dX10_day_12 : decode cX10_day 12 = .ok (.iconst (-1), 1) := by decide +kernel
theorem dX10_day_13 : decode cX10_day 13 = .ok (.ireturn, 1) := by decide +kernel
theorem dX10_day_14 : decode cX10_day 14 = .ok (.aload_n 0, 1) := by decide +kernel
theorem dX10_day_15 : decode cX10_day 15 = .ok (.aload 5, 2) := by decide +kernel
theorem dX10_day_17 : decode cX10_day 17 = .ok (.iload_n 2, 1) := by decide +kernel
theorem dX10_day_18 : decode cX10_day 18 = .ok (.invokevirtual 138, 3) := by decide +kernel
theorem dX10_day_21 : decode cX10_day 21 = .ok (.aload_n 0, 1) := by decide +kernel
theorem dX10_day_22 : decode cX10_day 22 = .ok (.getfield 56, 3) := by decide +kernel
theorem dX10_day_25 : decode cX10_day 25 = .ok (.iload_n 3, 1) := by decide +kernel
theorem dX10_day_26 : decode cX10_day 26 = .ok (.iload 4, 2) := by decide +kernel
theorem dX10_day_28 : decode cX10_day 28 = .ok (.invokevirtual 153, 3) := by decide +kernel
theorem dX10_day_31 : decode cX10_day 31 = .ok (.ireturn, 1) := by decide +kernel
theorem dX10_may_0 : decode cX10_may 0 = .ok (.aload_n 0, 1) := by decide +kernel
theorem dX10_may_1 : decode cX10_may 1 = .ok (.iload_n 1, 1) := by decide +kernel
theorem dX10_may_2 : decode cX10_may 2 = .ok (.invokevirtual 110, 3) := by decide +kernel
theorem dX10_may_5 : decode cX10_may 5 = .ok (.astore_n 3, 1) := by decide +kernel
theorem dX10_may_6 : decode cX10_may 6 = .ok (.aload_n 3, 1) := by decide +kernel
theorem dX10_may_7 : decode cX10_may 7 = .ok (.ifnonnull 5, 3) := by decide +kernel
theorem dX10_may_10 : decode cX10_may 10 = .ok (.iconst (-1), 1) := by decide +kernel
theorem dX10_may_11 : decode cX10_may 11 = .ok (.ireturn, 1) := by decide +kernel
theorem dX10_may_12 : decode cX10_may 12 = .ok (.aload_n 0, 1) := by decide +kernel
theorem dX10_may_13 : decode cX10_may 13 = .ok (.getfield 40, 3) := by decide +kernel
theorem dX10_may_16 : decode cX10_may 16 = .ok (.aload_n 3, 1) := by decide +kernel
theorem dX10_may_17 : decode cX10_may 17 = .ok (.iload_n 2, 1) := by decide +kernel
theorem dX10_may_18 : decode cX10_may 18 = .ok (.invokevirtual 154, 3) := by decide +kernel
theorem dX10_may_21 : decode cX10_may 21 = .ok (.aload_n 0, 1) := by decide +kernel
theorem dX10_may_22 : decode cX10_may 22 = .ok (.getfield 49, 3) := by decide +kernel
theorem dX10_may_25 : decode cX10_may 25 = .ok (.invokevirtual 157, 3) := by decide +kernel
theorem dX10_may_28 : decode cX10_may 28 = .ok (.ireturn, 1) := by decide +kernel
theorem dX10_most_0 : decode cX10_most 0 = .ok (.aload_n 0, 1) := by decide +kernel
theorem dX10_most_1 : decode cX10_most 1 = .ok (.iload_n 1, 1) := by decide +kernel
theorem dX10_most_2 : decode cX10_most 2 = .ok (.invokevirtual 110, 3) := by decide +kernel
theorem dX10_most_5 : decode cX10_most 5 = .ok (.astore 4, 2) := by decide +kernel
theorem dX10_most_7 : decode cX10_most 7 = .ok (.aload 4, 2) := by decide +kernel
theorem dX10_most_9 : decode cX10_most 9 = .ok (.ifnull 14, 3) := by decide +kernel
theorem dX10_most_12 : decode cX10_most 12 = .ok (.iload_n 3, 1) := by decide +kernel
theorem dX10_most_13 : decode cX10_most 13 = .ok (.ifCond .lt 10, 3) := by decide +kernel
theorem dX10_most_16 : decode cX10_most 16 = .ok (.iload_n 3, 1) := by decide +kernel
theorem dX10_most_17 : decode cX10_most 17 = .ok (.sipush 2000, 3) := by decide +kernel
theorem dX10_most_20 : decode cX10_most 20 = .ok (.if_icmp .le 5, 3) := by decide +kernel
theorem dX10_most_23 : decode cX10_most 23 = .ok (.iconst (-1), 1) := by decide +kernel
theorem dX10_most_24 : decode cX10_most 24 = .ok (.ireturn, 1) := by decide +kernel
theorem dX10_most_25 : decode cX10_most 25 = .ok (.aload_n 0, 1) := by decide +kernel
theorem dX10_most_26 : decode cX10_most 26 = .ok (.getfield 40, 3) := by decide +kernel
theorem dX10_most_29 : decode cX10_most 29 = .ok (.aload 4, 2) := by decide +kernel
theorem dX10_most_31 : decode cX10_most 31 = .ok (.iload_n 2, 1) := by decide +kernel
theorem dX10_most_32 : decode cX10_most 32 = .ok (.invokevirtual 154, 3) := by decide +kernel
theorem dX10_most_35 : decode cX10_most 35 = .ok (.aload_n 0, 1) := by decide +kernel
theorem dX10_most_36 : decode cX10_most 36 = .ok (.getfield 49, 3) := by decide +kernel
theorem dX10_most_39 : decode cX10_most 39 = .ok (.iload_n 3, 1) := by decide +kernel
theorem dX10_most_40 : decode cX10_most 40 = .ok (.invokevirtual 160, 3) := by decide +kernel
theorem dX10_most_43 : decode cX10_most 43 = .ok (.ireturn, 1) := by decide +kernel
theorem dX10_against_0 : decode cX10_against 0 = .ok (.aload_n 0, 1) := by decide +kernel
theorem dX10_against_1 : decode cX10_against 1 = .ok (.iload_n 1, 1) := by decide +kernel
theorem dX10_against_2 : decode cX10_against 2 = .ok (.invokevirtual 131, 3) := by decide +kernel
theorem dX10_against_5 : decode cX10_against 5 = .ok (.astore_n 3, 1) := by decide +kernel
theorem dX10_against_6 : decode cX10_against 6 = .ok (.aload_n 3, 1) := by decide +kernel
theorem dX10_against_7 : decode cX10_against 7 = .ok (.ifnonnull 5, 3) := by decide +kernel
theorem dX10_against_10 : decode cX10_against 10 = .ok (.iconst (-1), 1) := by decide +kernel
theorem dX10_against_11 : decode cX10_against 11 = .ok (.ireturn, 1) := by decide +kernel
theorem dX10_against_12 : decode cX10_against 12 = .ok (.aload_n 0, 1) := by decide +kernel
theorem dX10_against_13 : decode cX10_against 13 = .ok (.getfield 79, 3) := by decide +kernel
theorem dX10_against_16 : decode cX10_against 16 = .ok (.aload_n 0, 1) := by decide +kernel
theorem dX10_against_17 : decode cX10_against 17 = .ok (.getfield 25, 3) := by decide +kernel
theorem dX10_against_20 : decode cX10_against 20 = .ok (.aload_n 3, 1) := by decide +kernel
theorem dX10_against_21 : decode cX10_against 21 = .ok (.iload_n 1, 1) := by decide +kernel
theorem dX10_against_22 : decode cX10_against 22 = .ok (.invokevirtual 163, 3) := by decide +kernel
theorem dX10_against_25 : decode cX10_against 25 = .ok (.iload_n 2, 1) := by decide +kernel
theorem dX10_against_26 : decode cX10_against 26 = .ok (.tableswitch 50 0 2 #[26, 34, 42], 26) := by decide +kernel
theorem dX10_against_52 : decode cX10_against 52 = .ok (.aload_n 0, 1) := by decide +kernel
theorem dX10_against_53 : decode cX10_against 53 = .ok (.getfield 79, 3) := by decide +kernel
theorem dX10_against_56 : decode cX10_against 56 = .ok (.getfield 167, 3) := by decide +kernel
theorem dX10_against_59 : decode cX10_against 59 = .ok (.ireturn, 1) := by decide +kernel
theorem dX10_against_60 : decode cX10_against 60 = .ok (.aload_n 0, 1) := by decide +kernel
theorem dX10_against_61 : decode cX10_against 61 = .ok (.getfield 79, 3) := by decide +kernel
theorem dX10_against_64 : decode cX10_against 64 = .ok (.getfield 170, 3) := by decide +kernel
theorem dX10_against_67 : decode cX10_against 67 = .ok (.ireturn, 1) := by decide +kernel
theorem dX10_against_68 : decode cX10_against 68 = .ok (.aload_n 0, 1) := by decide +kernel
theorem dX10_against_69 : decode cX10_against 69 = .ok (.getfield 79, 3) := by decide +kernel
theorem dX10_against_72 : decode cX10_against 72 = .ok (.getfield 173, 3) := by decide +kernel
theorem dX10_against_75 : decode cX10_against 75 = .ok (.ireturn, 1) := by decide +kernel
theorem dX10_against_76 : decode cX10_against 76 = .ok (.iconst (-1), 1) := by decide +kernel
theorem dX10_against_77 : decode cX10_against 77 = .ok (.ireturn, 1) := by decide +kernel
theorem dX10_look_0 : decode cX10_look 0 = .ok (.aload_n 0, 1) := by decide +kernel
theorem dX10_look_1 : decode cX10_look 1 = .ok (.iload_n 1, 1) := by decide +kernel
theorem dX10_look_2 : decode cX10_look 2 = .ok (.invokevirtual 110, 3) := by decide +kernel
theorem dX10_look_5 : decode cX10_look 5 = .ok (.astore 4, 2) := by decide +kernel
theorem dX10_look_7 : decode cX10_look 7 = .ok (.aload 4, 2) := by decide +kernel
theorem dX10_look_9 : decode cX10_look 9 = .ok (.ifnull 12, 3) := by decide +kernel
theorem dX10_look_12 : decode cX10_look 12 = .ok (.aload 4, 2) := by decide +kernel
theorem dX10_look_14 : decode cX10_look 14 = .ok (.iload_n 2, 1) := by decide +kernel
theorem dX10_look_15 : decode cX10_look 15 = .ok (.invokevirtual 124, 3) := by decide +kernel
theorem dX10_look_18 : decode cX10_look 18 = .ok (.ifCond .ne 5, 3) := by decide +kernel
theorem dX10_look_21 : decode cX10_look 21 = .ok (.iconst (-1), 1) := by decide +kernel
theorem dX10_look_22 : decode cX10_look 22 = .ok (.ireturn, 1) := by decide +kernel
theorem dX10_look_23 : decode cX10_look 23 = .ok (.iload_n 3, 1) := by decide +kernel
theorem dX10_look_24 : decode cX10_look 24 = .ok (.tableswitch 74 0 3 #[32, 40, 58, 66], 32) := by decide +kernel
theorem dX10_look_56 : decode cX10_look 56 = .ok (.aload 4, 2) := by decide +kernel
theorem dX10_look_58 : decode cX10_look 58 = .ok (.getfield 176, 3) := by decide +kernel
theorem dX10_look_61 : decode cX10_look 61 = .ok (.iload_n 2, 1) := by decide +kernel
theorem dX10_look_62 : decode cX10_look 62 = .ok (.iaload, 1) := by decide +kernel
theorem dX10_look_63 : decode cX10_look 63 = .ok (.ireturn, 1) := by decide +kernel
theorem dX10_look_64 : decode cX10_look 64 = .ok (.aload 4, 2) := by decide +kernel
theorem dX10_look_66 : decode cX10_look 66 = .ok (.getfield 179, 3) := by decide +kernel
theorem dX10_look_69 : decode cX10_look 69 = .ok (.iload_n 2, 1) := by decide +kernel
theorem dX10_look_70 : decode cX10_look 70 = .ok (.iconst 1, 1) := by decide +kernel
theorem dX10_look_71 : decode cX10_look 71 = .ok (.iadd, 1) := by decide +kernel
theorem dX10_look_72 : decode cX10_look 72 = .ok (.iaload, 1) := by decide +kernel
theorem dX10_look_73 : decode cX10_look 73 = .ok (.aload 4, 2) := by decide +kernel
theorem dX10_look_75 : decode cX10_look 75 = .ok (.getfield 179, 3) := by decide +kernel
theorem dX10_look_78 : decode cX10_look 78 = .ok (.iload_n 2, 1) := by decide +kernel
theorem dX10_look_79 : decode cX10_look 79 = .ok (.iaload, 1) := by decide +kernel
theorem dX10_look_80 : decode cX10_look 80 = .ok (.isub, 1) := by decide +kernel
theorem dX10_look_81 : decode cX10_look 81 = .ok (.ireturn, 1) := by decide +kernel
theorem dX10_look_82 : decode cX10_look 82 = .ok (.aload 4, 2) := by decide +kernel
theorem dX10_look_84 : decode cX10_look 84 = .ok (.getfield 179, 3) := by decide +kernel
theorem dX10_look_87 : decode cX10_look 87 = .ok (.iload_n 2, 1) := by decide +kernel
theorem dX10_look_88 : decode cX10_look 88 = .ok (.iaload, 1) := by decide +kernel
theorem dX10_look_89 : decode cX10_look 89 = .ok (.ireturn, 1) := by decide +kernel
theorem dX10_look_90 : decode cX10_look 90 = .ok (.aload 4, 2) := by decide +kernel
theorem dX10_look_92 : decode cX10_look 92 = .ok (.getfield 182, 3) := by decide +kernel
theorem dX10_look_95 : decode cX10_look 95 = .ok (.iload_n 2, 1) := by decide +kernel
theorem dX10_look_96 : decode cX10_look 96 = .ok (.iaload, 1) := by decide +kernel
theorem dX10_look_97 : decode cX10_look 97 = .ok (.ireturn, 1) := by decide +kernel
theorem dX10_look_98 : decode cX10_look 98 = .ok (.iconst (-1), 1) := by decide +kernel
theorem dX10_look_99 : decode cX10_look 99 = .ok (.ireturn, 1) := by decide +kernel
theorem dX10_count_0 : decode cX10_count 0 = .ok (.iload_n 1, 1) := by decide +kernel
theorem dX10_count_1 : decode cX10_count 1 = .ok (.iconst (-1), 1) := by decide +kernel
theorem dX10_count_2 : decode cX10_count 2 = .ok (.if_icmp .ne 9, 3) := by decide +kernel
theorem dX10_count_5 : decode cX10_count 5 = .ok (.aload_n 0, 1) := by decide +kernel
theorem dX10_count_6 : decode cX10_count 6 = .ok (.iload_n 2, 1) := by decide +kernel
theorem dX10_count_7 : decode cX10_count 7 = .ok (.invokevirtual 185, 3) := by decide +kernel
theorem dX10_count_10 : decode cX10_count 10 = .ok (.ireturn, 1) := by decide +kernel
theorem dX10_count_11 : decode cX10_count 11 = .ok (.aload_n 0, 1) := by decide +kernel
theorem dX10_count_12 : decode cX10_count 12 = .ok (.iload_n 1, 1) := by decide +kernel
theorem dX10_count_13 : decode cX10_count 13 = .ok (.invokevirtual 110, 3) := by decide +kernel
theorem dX10_count_16 : decode cX10_count 16 = .ok (.astore_n 3, 1) := by decide +kernel
theorem dX10_count_17 : decode cX10_count 17 = .ok (.aload_n 3, 1) := by decide +kernel
theorem dX10_count_18 : decode cX10_count 18 = .ok (.ifnonnull 5, 3) := by decide +kernel
theorem dX10_count_21 : decode cX10_count 21 = .ok (.iconst (-1), 1) := by decide +kernel
theorem dX10_count_22 : decode cX10_count 22 = .ok (.ireturn, 1) := by decide +kernel
theorem dX10_count_23 : decode cX10_count 23 = .ok (.aload_n 0, 1) := by decide +kernel
theorem dX10_count_24 : decode cX10_count 24 = .ok (.getfield 40, 3) := by decide +kernel
theorem dX10_count_27 : decode cX10_count 27 = .ok (.aload_n 3, 1) := by decide +kernel
theorem dX10_count_28 : decode cX10_count 28 = .ok (.iconst 0, 1) := by decide +kernel
theorem dX10_count_29 : decode cX10_count 29 = .ok (.invokevirtual 154, 3) := by decide +kernel
theorem dX10_count_32 : decode cX10_count 32 = .ok (.iload_n 2, 1) := by decide +kernel
theorem dX10_count_33 : decode cX10_count 33 = .ok (.tableswitch 75 0 4 #[35, 43, 51, 59, 67], 35) := by decide +kernel
theorem dX10_count_68 : decode cX10_count 68 = .ok (.aload_n 0, 1) := by decide +kernel
theorem dX10_count_69 : decode cX10_count 69 = .ok (.getfield 40, 3) := by decide +kernel
theorem dX10_count_72 : decode cX10_count 72 = .ok (.getfield 188, 3) := by decide +kernel
theorem dX10_count_75 : decode cX10_count 75 = .ok (.ireturn, 1) := by decide +kernel
theorem dX10_count_76 : decode cX10_count 76 = .ok (.aload_n 0, 1) := by decide +kernel
theorem dX10_count_77 : decode cX10_count 77 = .ok (.getfield 40, 3) := by decide +kernel
theorem dX10_count_80 : decode cX10_count 80 = .ok (.getfield 191, 3) := by decide +kernel
theorem dX10_count_83 : decode cX10_count 83 = .ok (.ireturn, 1) := by decide +kernel
theorem dX10_count_84 : decode cX10_count 84 = .ok (.aload_n 0, 1) := by decide +kernel
theorem dX10_count_85 : decode cX10_count 85 = .ok (.getfield 40, 3) := by decide +kernel
theorem dX10_count_88 : decode cX10_count 88 = .ok (.getfield 194, 3) := by decide +kernel
theorem dX10_count_91 : decode cX10_count 91 = .ok (.ireturn, 1) := by decide +kernel
theorem dX10_count_92 : decode cX10_count 92 = .ok (.aload_n 0, 1) := by decide +kernel
theorem dX10_count_93 : decode cX10_count 93 = .ok (.getfield 40, 3) := by decide +kernel
theorem dX10_count_96 : decode cX10_count 96 = .ok (.getfield 197, 3) := by decide +kernel
theorem dX10_count_99 : decode cX10_count 99 = .ok (.ireturn, 1) := by decide +kernel
theorem dX10_count_100 : decode cX10_count 100 = .ok (.aload_n 0, 1) := by decide +kernel
theorem dX10_count_101 : decode cX10_count 101 = .ok (.getfield 40, 3) := by decide +kernel
theorem dX10_count_104 : decode cX10_count 104 = .ok (.invokevirtual 200, 3) := by decide +kernel
theorem dX10_count_107 : decode cX10_count 107 = .ok (.ireturn, 1) := by decide +kernel
theorem dX10_count_108 : decode cX10_count 108 = .ok (.iconst (-1), 1) := by decide +kernel
theorem dX10_count_109 : decode cX10_count 109 = .ok (.ireturn, 1) := by decide +kernel
theorem dX10_countOfAll_0 : decode cX10_countOfAll 0 = .ok (.iload_n 1, 1) := by decide +kernel
theorem dX10_countOfAll_1 : decode cX10_countOfAll 1 = .ok (.tableswitch 55 0 2 #[27, 35, 45], 27) := by decide +kernel
theorem dX10_countOfAll_28 : decode cX10_countOfAll 28 = .ok (.aload_n 0, 1) := by decide +kernel
theorem dX10_countOfAll_29 : decode cX10_countOfAll 29 = .ok (.getfield 10, 3) := by decide +kernel
theorem dX10_countOfAll_32 : decode cX10_countOfAll 32 = .ok (.getfield 91, 3) := by decide +kernel
theorem dX10_countOfAll_35 : decode cX10_countOfAll 35 = .ok (.ireturn, 1) := by decide +kernel
theorem dX10_countOfAll_36 : decode cX10_countOfAll 36 = .ok (.aload_n 0, 1) := by decide +kernel
theorem dX10_countOfAll_37 : decode cX10_countOfAll 37 = .ok (.getfield 32, 3) := by decide +kernel
theorem dX10_countOfAll_40 : decode cX10_countOfAll 40 = .ok (.iconst 0, 1) := by decide +kernel
theorem dX10_countOfAll_41 : decode cX10_countOfAll 41 = .ok (.aaload, 1) := by decide +kernel
theorem dX10_countOfAll_42 : decode cX10_countOfAll 42 = .ok (.getfield 203, 3) := by decide +kernel
theorem dX10_countOfAll_45 : decode cX10_countOfAll 45 = .ok (.ireturn, 1) := by decide +kernel
theorem dX10_countOfAll_46 : decode cX10_countOfAll 46 = .ok (.aload_n 0, 1) := by decide +kernel
theorem dX10_countOfAll_47 : decode cX10_countOfAll 47 = .ok (.getfield 32, 3) := by decide +kernel
theorem dX10_countOfAll_50 : decode cX10_countOfAll 50 = .ok (.iconst 1, 1) := by decide +kernel
theorem dX10_countOfAll_51 : decode cX10_countOfAll 51 = .ok (.aaload, 1) := by decide +kernel
theorem dX10_countOfAll_52 : decode cX10_countOfAll 52 = .ok (.getfield 203, 3) := by decide +kernel
theorem dX10_countOfAll_55 : decode cX10_countOfAll 55 = .ok (.ireturn, 1) := by decide +kernel
theorem dX10_countOfAll_56 : decode cX10_countOfAll 56 = .ok (.iconst (-1), 1) := by decide +kernel
theorem dX10_countOfAll_57 : decode cX10_countOfAll 57 = .ok (.ireturn, 1) := by decide +kernel
theorem dX10_cardOf_0 : decode cX10_cardOf 0 = .ok (.iload_n 1, 1) := by decide +kernel
theorem dX10_cardOf_1 : decode cX10_cardOf 1 = .ok (.ifCond .lt 17, 3) := by decide +kernel
theorem dX10_cardOf_4 : decode cX10_cardOf 4 = .ok (.iload_n 1, 1) := by decide +kernel
theorem dX10_cardOf_5 : decode cX10_cardOf 5 = .ok (.iconst 4, 1) := by decide +kernel
theorem dX10_cardOf_6 : decode cX10_cardOf 6 = .ok (.if_icmp .ge 12, 3) := by decide +kernel
theorem dX10_cardOf_9 : decode cX10_cardOf 9 = .ok (.aload_n 0, 1) := by decide +kernel
theorem dX10_cardOf_10 : decode cX10_cardOf 10 = .ok (.getfield 25, 3) := by decide +kernel
theorem dX10_cardOf_13 : decode cX10_cardOf 13 = .ok (.iload_n 1, 1) := by decide +kernel
theorem dX10_cardOf_14 : decode cX10_cardOf 14 = .ok (.aaload, 1) := by decide +kernel
theorem dX10_cardOf_15 : decode cX10_cardOf 15 = .ok (.goto 4, 3) := by decide +kernel
theorem dX10_cardOf_18 : decode cX10_cardOf 18 = .ok (.aconst_null, 1) := by decide +kernel
theorem dX10_cardOf_19 : decode cX10_cardOf 19 = .ok (.areturn, 1) := by decide +kernel
theorem dX10_tripsOf_0 : decode cX10_tripsOf 0 = .ok (.iload_n 1, 1) := by decide +kernel
theorem dX10_tripsOf_1 : decode cX10_tripsOf 1 = .ok (.ifCond .lt 17, 3) := by decide +kernel
theorem dX10_tripsOf_4 : decode cX10_tripsOf 4 = .ok (.iload_n 1, 1) := by decide +kernel
theorem dX10_tripsOf_5 : decode cX10_tripsOf 5 = .ok (.iconst 2, 1) := by decide +kernel
theorem dX10_tripsOf_6 : decode cX10_tripsOf 6 = .ok (.if_icmp .ge 12, 3) := by decide +kernel
theorem dX10_tripsOf_9 : decode cX10_tripsOf 9 = .ok (.aload_n 0, 1) := by decide +kernel
theorem dX10_tripsOf_10 : decode cX10_tripsOf 10 = .ok (.getfield 32, 3) := by decide +kernel
theorem dX10_tripsOf_13 : decode cX10_tripsOf 13 = .ok (.iload_n 1, 1) := by decide +kernel
theorem dX10_tripsOf_14 : decode cX10_tripsOf 14 = .ok (.aaload, 1) := by decide +kernel
theorem dX10_tripsOf_15 : decode cX10_tripsOf 15 = .ok (.goto 4, 3) := by decide +kernel
theorem dX10_tripsOf_18 : decode cX10_tripsOf 18 = .ok (.aconst_null, 1) := by decide +kernel
theorem dX10_tripsOf_19 : decode cX10_tripsOf 19 = .ok (.areturn, 1) := by decide +kernel
theorem dX10_isKind_0 : decode cX10_isKind 0 = .ok (.iload_n 0, 1) := by decide +kernel
theorem dX10_isKind_1 : decode cX10_isKind 1 = .ok (.ifCond .ne 18, 3) := by decide +kernel
theorem dX10_isKind_4 : decode cX10_isKind 4 = .ok (.iload_n 1, 1) := by decide +kernel
theorem dX10_isKind_5 : decode cX10_isKind 5 = .ok (.ifCond .lt 12, 3) := by decide +kernel
theorem dX10_isKind_8 : decode cX10_isKind 8 = .ok (.iload_n 1, 1) := by decide +kernel
theorem dX10_isKind_9 : decode cX10_isKind 9 = .ok (.iconst 2, 1) := by decide +kernel
theorem dX10_isKind_10 : decode cX10_isKind 10 = .ok (.if_icmp .ge 7, 3) := by decide +kernel
theorem dX10_isKind_13 : decode cX10_isKind 13 = .ok (.iconst 1, 1) := by decide +kernel
theorem dX10_isKind_14 : decode cX10_isKind 14 = .ok (.goto 4, 3) := by decide +kernel
theorem dX10_isKind_17 : decode cX10_isKind 17 = .ok (.iconst 0, 1) := by decide +kernel
theorem dX10_isKind_18 : decode cX10_isKind 18 = .ok (.ireturn, 1) := by decide +kernel
theorem dX10_isKind_19 : decode cX10_isKind 19 = .ok (.iload_n 0, 1) := by decide +kernel
theorem dX10_isKind_20 : decode cX10_isKind 20 = .ok (.ifCond .le 12, 3) := by decide +kernel
theorem dX10_isKind_23 : decode cX10_isKind 23 = .ok (.iload_n 0, 1) := by decide +kernel
theorem dX10_isKind_24 : decode cX10_isKind 24 = .ok (.iconst 5, 1) := by decide +kernel
theorem dX10_isKind_25 : decode cX10_isKind 25 = .ok (.if_icmp .ge 7, 3) := by decide +kernel
theorem dX10_isKind_28 : decode cX10_isKind 28 = .ok (.iconst 1, 1) := by decide +kernel
theorem dX10_isKind_29 : decode cX10_isKind 29 = .ok (.goto 4, 3) := by decide +kernel
theorem dX10_isKind_32 : decode cX10_isKind 32 = .ok (.iconst 0, 1) := by decide +kernel
theorem dX10_isKind_33 : decode cX10_isKind 33 = .ok (.ireturn, 1) := by decide +kernel
theorem dX10_findDays_0 : decode cX10_findDays 0 = .ok (.aload_n 0, 1) := by decide +kernel
theorem dX10_findDays_1 : decode cX10_findDays 1 = .ok (.getfield 40, 3) := by decide +kernel
theorem dX10_findDays_4 : decode cX10_findDays 4 = .ok (.aload_n 1, 1) := by decide +kernel
theorem dX10_findDays_5 : decode cX10_findDays 5 = .ok (.iload_n 2, 1) := by decide +kernel
theorem dX10_findDays_6 : decode cX10_findDays 6 = .ok (.invokevirtual 154, 3) := by decide +kernel
theorem dX10_findDays_9 : decode cX10_findDays 9 = .ok (.aload_n 0, 1) := by decide +kernel
theorem dX10_findDays_10 : decode cX10_findDays 10 = .ok (.getfield 65, 3) := by decide +kernel
theorem dX10_findDays_13 : decode cX10_findDays 13 = .ok (.invokevirtual 204, 3) := by decide +kernel
theorem dX10_findDays_16 : decode cX10_findDays 16 = .ok (.aload_n 0, 1) := by decide +kernel
theorem dX10_findDays_17 : decode cX10_findDays 17 = .ok (.getfield 65, 3) := by decide +kernel
theorem dX10_findDays_20 : decode cX10_findDays 20 = .ok (.invokevirtual 207, 3) := by decide +kernel
theorem dX10_findDays_23 : decode cX10_findDays 23 = .ok (.return_, 1) := by decide +kernel
theorem dX10_findBreaches_0 : decode cX10_findBreaches 0 = .ok (.aload_n 0, 1) := by decide +kernel
theorem dX10_findBreaches_1 : decode cX10_findBreaches 1 = .ok (.getfield 72, 3) := by decide +kernel
theorem dX10_findBreaches_4 : decode cX10_findBreaches 4 = .ok (.iconst 0, 1) := by decide +kernel
theorem dX10_findBreaches_5 : decode cX10_findBreaches 5 = .ok (.putfield 145, 3) := by decide +kernel
theorem dX10_findBreaches_8 : decode cX10_findBreaches 8 = .ok (.aload_n 0, 1) := by decide +kernel
theorem dX10_findBreaches_9 : decode cX10_findBreaches 9 = .ok (.getfield 49, 3) := by decide +kernel
theorem dX10_findBreaches_12 : decode cX10_findBreaches 12 = .ok (.aload_n 0, 1) := by decide +kernel
theorem dX10_findBreaches_13 : decode cX10_findBreaches 13 = .ok (.getfield 72, 3) := by decide +kernel
theorem dX10_findBreaches_16 : decode cX10_findBreaches 16 = .ok (.invokevirtual 210, 3) := by decide +kernel
theorem dX10_findBreaches_19 : decode cX10_findBreaches 19 = .ok (.aload_n 0, 1) := by decide +kernel
theorem dX10_findBreaches_20 : decode cX10_findBreaches 20 = .ok (.getfield 56, 3) := by decide +kernel
theorem dX10_findBreaches_23 : decode cX10_findBreaches 23 = .ok (.aload_n 0, 1) := by decide +kernel
theorem dX10_findBreaches_24 : decode cX10_findBreaches 24 = .ok (.getfield 72, 3) := by decide +kernel
theorem dX10_findBreaches_27 : decode cX10_findBreaches 27 = .ok (.aload_n 0, 1) := by decide +kernel
theorem dX10_findBreaches_28 : decode cX10_findBreaches 28 = .ok (.getfield 19, 3) := by decide +kernel
theorem dX10_findBreaches_31 : decode cX10_findBreaches 31 = .ok (.aload_n 0, 1) := by decide +kernel
theorem dX10_findBreaches_32 : decode cX10_findBreaches 32 = .ok (.getfield 40, 3) := by decide +kernel
theorem dX10_findBreaches_35 : decode cX10_findBreaches 35 = .ok (.invokevirtual 214, 3) := by decide +kernel
theorem dX10_findBreaches_38 : decode cX10_findBreaches 38 = .ok (.aload_n 0, 1) := by decide +kernel
theorem dX10_findBreaches_39 : decode cX10_findBreaches 39 = .ok (.invokevirtual 218, 3) := by decide +kernel
theorem dX10_findBreaches_42 : decode cX10_findBreaches 42 = .ok (.return_, 1) := by decide +kernel
theorem dX10_tellOverInWeeks_0 : decode cX10_tellOverInWeeks 0 = .ok (.aload_n 0, 1) := by decide +kernel
theorem dX10_tellOverInWeeks_1 : decode cX10_tellOverInWeeks 1 = .ok (.getfield 19, 3) := by decide +kernel
theorem dX10_tellOverInWeeks_4 : decode cX10_tellOverInWeeks 4 = .ok (.getfield 107, 3) := by decide +kernel
theorem dX10_tellOverInWeeks_7 : decode cX10_tellOverInWeeks 7 = .ok (.bipush 10, 2) := by decide +kernel
theorem dX10_tellOverInWeeks_9 : decode cX10_tellOverInWeeks 9 = .ok (.iaload, 1) := by decide +kernel
theorem dX10_tellOverInWeeks_10 : decode cX10_tellOverInWeeks 10 = .ok (.istore_n 1, 1) := by decide +kernel
theorem dX10_tellOverInWeeks_11 : decode cX10_tellOverInWeeks 11 = .ok (.iconst 0, 1) := by decide +kernel
theorem dX10_tellOverInWeeks_12 : decode cX10_tellOverInWeeks 12 = .ok (.istore_n 2, 1) := by decide +kernel
theorem dX10_tellOverInWeeks_13 : decode cX10_tellOverInWeeks 13 = .ok (.iload_n 2, 1) := by decide +kernel
theorem dX10_tellOverInWeeks_14 : decode cX10_tellOverInWeeks 14 = .ok (.iconst 2, 1) := by decide +kernel
theorem dX10_tellOverInWeeks_15 : decode cX10_tellOverInWeeks 15 = .ok (.if_icmp .ge 67, 3) := by decide +kernel
theorem dX10_tellOverInWeeks_18 : decode cX10_tellOverInWeeks 18 = .ok (.aload_n 0, 1) := by decide +kernel
theorem dX10_tellOverInWeeks_19 : decode cX10_tellOverInWeeks 19 = .ok (.getfield 40, 3) := by decide +kernel
theorem dX10_tellOverInWeeks_22 : decode cX10_tellOverInWeeks 22 = .ok (.iload_n 2, 1) := by decide +kernel
theorem dX10_tellOverInWeeks_23 : decode cX10_tellOverInWeeks 23 = .ok (.sipush 10080, 3) := by decide +kernel
theorem dX10_tellOverInWeeks_26 : decode cX10_tellOverInWeeks 26 = .ok (.imul, 1) := by decide +kernel
theorem dX10_tellOverInWeeks_27 : decode cX10_tellOverInWeeks 27 = .ok (.invokevirtual 221, 3) := by decide +kernel
theorem dX10_tellOverInWeeks_30 : decode cX10_tellOverInWeeks 30 = .ok (.istore_n 3, 1) := by decide +kernel
theorem dX10_tellOverInWeeks_31 : decode cX10_tellOverInWeeks 31 = .ok (.aload_n 0, 1) := by decide +kernel
theorem dX10_tellOverInWeeks_32 : decode cX10_tellOverInWeeks 32 = .ok (.getfield 40, 3) := by decide +kernel
theorem dX10_tellOverInWeeks_35 : decode cX10_tellOverInWeeks 35 = .ok (.iload_n 2, 1) := by decide +kernel
theorem dX10_tellOverInWeeks_36 : decode cX10_tellOverInWeeks 36 = .ok (.iconst 1, 1) := by decide +kernel
theorem dX10_tellOverInWeeks_37 : decode cX10_tellOverInWeeks 37 = .ok (.iadd, 1) := by decide +kernel
theorem dX10_tellOverInWeeks_38 : decode cX10_tellOverInWeeks 38 = .ok (.sipush 10080, 3) := by decide +kernel
theorem dX10_tellOverInWeeks_41 : decode cX10_tellOverInWeeks 41 = .ok (.imul, 1) := by decide +kernel
theorem dX10_tellOverInWeeks_42 : decode cX10_tellOverInWeeks 42 = .ok (.invokevirtual 221, 3) := by decide +kernel
theorem dX10_tellOverInWeeks_45 : decode cX10_tellOverInWeeks 45 = .ok (.iload_n 3, 1) := by decide +kernel
theorem dX10_tellOverInWeeks_46 : decode cX10_tellOverInWeeks 46 = .ok (.isub, 1) := by decide +kernel
theorem dX10_tellOverInWeeks_47 : decode cX10_tellOverInWeeks 47 = .ok (.iload_n 1, 1) := by decide +kernel
theorem dX10_tellOverInWeeks_48 : decode cX10_tellOverInWeeks 48 = .ok (.isub, 1) := by decide +kernel
theorem dX10_tellOverInWeeks_49 : decode cX10_tellOverInWeeks 49 = .ok (.istore 4, 2) := by decide +kernel
theorem dX10_tellOverInWeeks_51 : decode cX10_tellOverInWeeks 51 = .ok (.iload 4, 2) := by decide +kernel
theorem dX10_tellOverInWeeks_53 : decode cX10_tellOverInWeeks 53 = .ok (.ifCond .le 23, 3) := by decide +kernel
theorem dX10_tellOverInWeeks_56 : decode cX10_tellOverInWeeks 56 = .ok (.aload_n 0, 1) := by decide +kernel
theorem dX10_tellOverInWeeks_57 : decode cX10_tellOverInWeeks 57 = .ok (.getfield 72, 3) := by decide +kernel
theorem dX10_tellOverInWeeks_60 : decode cX10_tellOverInWeeks 60 = .ok (.aload_n 0, 1) := by decide +kernel
theorem dX10_tellOverInWeeks_61 : decode cX10_tellOverInWeeks 61 = .ok (.getfield 40, 3) := by decide +kernel
theorem dX10_tellOverInWeeks_64 : decode cX10_tellOverInWeeks 64 = .ok (.iload_n 3, 1) := by decide +kernel
theorem dX10_tellOverInWeeks_65 : decode cX10_tellOverInWeeks 65 = .ok (.iload_n 1, 1) := by decide +kernel
theorem dX10_tellOverInWeeks_66 : decode cX10_tellOverInWeeks 66 = .ok (.iadd, 1) := by decide +kernel
theorem dX10_tellOverInWeeks_67 : decode cX10_tellOverInWeeks 67 = .ok (.invokevirtual 224, 3) := by decide +kernel
theorem dX10_tellOverInWeeks_70 : decode cX10_tellOverInWeeks 70 = .ok (.iconst 4, 1) := by decide +kernel
theorem dX10_tellOverInWeeks_71 : decode cX10_tellOverInWeeks 71 = .ok (.iload 4, 2) := by decide +kernel
theorem dX10_tellOverInWeeks_73 : decode cX10_tellOverInWeeks 73 = .ok (.invokevirtual 227, 3) := by decide +kernel
theorem dX10_tellOverInWeeks_76 : decode cX10_tellOverInWeeks 76 = .ok (.iinc 2 1, 3) := by decide +kernel
theorem dX10_tellOverInWeeks_79 : decode cX10_tellOverInWeeks 79 = .ok (.goto (-66), 3) := by decide +kernel
theorem dX10_tellOverInWeeks_82 : decode cX10_tellOverInWeeks 82 = .ok (.return_, 1) := by decide +kernel
theorem dX11_init_0 : decode cX11_init 0 = .ok (.aload_n 0, 1) := by decide +kernel
theorem dX11_init_1 : decode cX11_init 1 = .ok (.invokespecial 1, 3) := by decide +kernel
theorem dX11_init_4 : decode cX11_init 4 = .ok (.aload_n 0, 1) := by decide +kernel
theorem dX11_init_5 : decode cX11_init 5 = .ok (.bipush 80, 2) := by decide +kernel
theorem dX11_init_7 : decode cX11_init 7 = .ok (.newarray .byte, 2) := by decide +kernel
theorem dX11_init_9 : decode cX11_init 9 = .ok (.putfield 7, 3) := by decide +kernel
theorem dX11_init_12 : decode cX11_init 12 = .ok (.aload_n 0, 1) := by decide +kernel
theorem dX11_init_13 : decode cX11_init 13 = .ok (.bipush 11, 2) := by decide +kernel
theorem dX11_init_15 : decode cX11_init 15 = .ok (.newarray .int, 2) := by decide +kernel
theorem dX11_init_17 : decode cX11_init 17 = .ok (.putfield 13, 3) := by decide +kernel
theorem dX11_init_20 : decode cX11_init 20 = .ok (.aload_n 0, 1) := by decide +kernel
theorem dX11_init_21 : decode cX11_init 21 = .ok (.bipush 11, 2) := by decide +kernel
theorem dX11_init_23 : decode cX11_init 23 = .ok (.newarray .int, 2) := by decide +kernel
theorem dX11_init_25 : decode cX11_init 25 = .ok (.putfield 17, 3) := by decide +kernel
theorem dX11_init_28 : decode cX11_init 28 = .ok (.aload_n 0, 1) := by decide +kernel
theorem dX11_init_29 : decode cX11_init 29 = .ok (.iconst 4, 1) := by decide +kernel
theorem dX11_init_30 : decode cX11_init 30 = .ok (.newarray .int, 2) := by decide +kernel
theorem dX11_init_32 : decode cX11_init 32 = .ok (.putfield 20, 3) := by decide +kernel
theorem dX11_init_35 : decode cX11_init 35 = .ok (.aload_n 0, 1) := by decide +kernel
theorem dX11_init_36 : decode cX11_init 36 = .ok (.iconst 4, 1) := by decide +kernel
theorem dX11_init_37 : decode cX11_init 37 = .ok (.newarray .int, 2) := by decide +kernel
theorem dX11_init_39 : decode cX11_init 39 = .ok (.putfield 23, 3) := by decide +kernel
theorem dX11_init_42 : decode cX11_init 42 = .ok (.aload_n 0, 1) := by decide +kernel
theorem dX11_init_43 : decode cX11_init 43 = .ok (.sipush 240, 3) := by decide +kernel
theorem dX11_init_46 : decode cX11_init 46 = .ok (.newarray .int, 2) := by decide +kernel
theorem dX11_init_48 : decode cX11_init 48 = .ok (.putfield 26, 3) := by decide +kernel
theorem dX11_init_51 : decode cX11_init 51 = .ok (.aload_n 0, 1) := by decide +kernel
theorem dX11_init_52 : decode cX11_init 52 = .ok (.sipush 240, 3) := by decide +kernel
theorem dX11_init_55 : decode cX11_init 55 = .ok (.newarray .int, 2) := by decide +kernel
theorem dX11_init_57 : decode cX11_init 57 = .ok (.putfield 29, 3) := by decide +kernel
theorem dX11_init_60 : decode cX11_init 60 = .ok (.aload_n 0, 1) := by decide +kernel
theorem dX11_init_61 : decode cX11_init 61 = .ok (.sipush 240, 3) := by decide +kernel
theorem dX11_init_64 : decode cX11_init 64 = .ok (.newarray .int, 2) := by decide +kernel
theorem dX11_init_66 : decode cX11_init 66 = .ok (.putfield 32, 3) := by decide +kernel
theorem dX11_init_69 : decode cX11_init 69 = .ok (.aload_n 0, 1) := by decide +kernel
theorem dX11_init_70 : decode cX11_init 70 = .ok (.iconst 2, 1) := by decide +kernel
theorem dX11_init_71 : decode cX11_init 71 = .ok (.newarray .int, 2) := by decide +kernel
theorem dX11_init_73 : decode cX11_init 73 = .ok (.putfield 35, 3) := by decide +kernel
theorem dX11_init_76 : decode cX11_init 76 = .ok (.aload_n 0, 1) := by decide +kernel
theorem dX11_init_77 : decode cX11_init 77 = .ok (.bipush 40, 2) := by decide +kernel
theorem dX11_init_79 : decode cX11_init 79 = .ok (.newarray .int, 2) := by decide +kernel
theorem dX11_init_81 : decode cX11_init 81 = .ok (.putfield 38, 3) := by decide +kernel
theorem dX11_init_84 : decode cX11_init 84 = .ok (.aload_n 0, 1) := by decide +kernel
theorem dX11_init_85 : decode cX11_init 85 = .ok (.bipush 40, 2) := by decide +kernel
theorem dX11_init_87 : decode cX11_init 87 = .ok (.newarray .int, 2) := by decide +kernel
theorem dX11_init_89 : decode cX11_init 89 = .ok (.putfield 41, 3) := by decide +kernel
theorem dX11_init_92 : decode cX11_init 92 = .ok (.aload_n 0, 1) := by decide +kernel
theorem dX11_init_93 : decode cX11_init 93 = .ok (.sipush 20160, 3) := by decide +kernel
theorem dX11_init_96 : decode cX11_init 96 = .ok (.newarray .int, 2) := by decide +kernel
theorem dX11_init_98 : decode cX11_init 98 = .ok (.putfield 44, 3) := by decide +kernel
theorem dX11_init_101 : decode cX11_init 101 = .ok (.aload_n 0, 1) := by decide +kernel
theorem dX11_init_102 : decode cX11_init 102 = .ok (.sipush 20161, 3) := by decide +kernel
theorem dX11_init_105 : decode cX11_init 105 = .ok (.newarray .int, 2) := by decide +kernel
theorem dX11_init_107 : decode cX11_init 107 = .ok (.putfield 47, 3) := by decide +kernel
theorem dX11_init_110 : decode cX11_init 110 = .ok (.aload_n 0, 1) := by decide +kernel
theorem dX11_init_111 : decode cX11_init 111 = .ok (.bipush 60, 2) := by decide +kernel
theorem dX11_init_113 : decode cX11_init 113 = .ok (.newarray .int, 2) := by decide +kernel
theorem dX11_init_115 : decode cX11_init 115 = .ok (.putfield 50, 3) := by decide +kernel
theorem dX11_init_118 : decode cX11_init 118 = .ok (.aload_n 0, 1) := by decide +kernel
theorem dX11_init_119 : decode cX11_init 119 = .ok (.bipush 60, 2) := by decide +kernel
theorem dX11_init_121 : decode cX11_init 121 = .ok (.newarray .int, 2) := by decide +kernel
theorem dX11_init_123 : decode cX11_init 123 = .ok (.putfield 53, 3) := by decide +kernel
theorem dX11_init_126 : decode cX11_init 126 = .ok (.aload_n 0, 1) := by decide +kernel
theorem dX11_init_127 : decode cX11_init 127 = .ok (.sipush 400, 3) := by decide +kernel
theorem dX11_init_130 : decode cX11_init 130 = .ok (.newarray .int, 2) := by decide +kernel
theorem dX11_init_132 : decode cX11_init 132 = .ok (.putfield 56, 3) := by decide +kernel
theorem dX11_init_135 : decode cX11_init 135 = .ok (.aload_n 0, 1) := by decide +kernel
theorem dX11_init_136 : decode cX11_init 136 = .ok (.sipush 400, 3) := by decide +kernel
theorem dX11_init_139 : decode cX11_init 139 = .ok (.newarray .int, 2) := by decide +kernel
theorem dX11_init_141 : decode cX11_init 141 = .ok (.putfield 59, 3) := by decide +kernel
theorem dX11_init_144 : decode cX11_init 144 = .ok (.aload_n 0, 1) := by decide +kernel
theorem dX11_init_145 : decode cX11_init 145 = .ok (.sipush 400, 3) := by decide +kernel
theorem dX11_init_148 : decode cX11_init 148 = .ok (.newarray .int, 2) := by decide +kernel
theorem dX11_init_150 : decode cX11_init 150 = .ok (.putfield 62, 3) := by decide +kernel
theorem dX11_init_153 : decode cX11_init 153 = .ok (.aload_n 0, 1) := by decide +kernel
theorem dX11_init_154 : decode cX11_init 154 = .ok (.bipush 12, 2) := by decide +kernel
theorem dX11_init_156 : decode cX11_init 156 = .ok (.newarray .int, 2) := by decide +kernel
theorem dX11_init_158 : decode cX11_init 158 = .ok (.putfield 65, 3) := by decide +kernel
theorem dX11_init_161 : decode cX11_init 161 = .ok (.aload_n 0, 1) := by decide +kernel
theorem dX11_init_162 : decode cX11_init 162 = .ok (.bipush 62, 2) := by decide +kernel
theorem dX11_init_164 : decode cX11_init 164 = .ok (.newarray .int, 2) := by decide +kernel
theorem dX11_init_166 : decode cX11_init 166 = .ok (.putfield 68, 3) := by decide +kernel
theorem dX11_init_169 : decode cX11_init 169 = .ok (.aload_n 0, 1) := by decide +kernel
theorem dX11_init_170 : decode cX11_init 170 = .ok (.bipush 62, 2) := by decide +kernel
theorem dX11_init_172 : decode cX11_init 172 = .ok (.newarray .int, 2) := by decide +kernel
theorem dX11_init_174 : decode cX11_init 174 = .ok (.putfield 71, 3) := by decide +kernel
theorem dX11_init_177 : decode cX11_init 177 = .ok (.aload_n 0, 1) := by decide +kernel
theorem dX11_init_178 : decode cX11_init 178 = .ok (.bipush 62, 2) := by decide +kernel
theorem dX11_init_180 : decode cX11_init 180 = .ok (.newarray .int, 2) := by decide +kernel
theorem dX11_init_182 : decode cX11_init 182 = .ok (.putfield 74, 3) := by decide +kernel
theorem dX11_init_185 : decode cX11_init 185 = .ok (.aload_n 0, 1) := by decide +kernel
theorem dX11_init_186 : decode cX11_init 186 = .ok (.bipush 62, 2) := by decide +kernel
theorem dX11_init_188 : decode cX11_init 188 = .ok (.newarray .boolean, 2) := by decide +kernel
theorem dX11_init_190 : decode cX11_init 190 = .ok (.putfield 77, 3) := by decide +kernel
theorem dX11_init_193 : decode cX11_init 193 = .ok (.aload_n 0, 1) := by decide +kernel
theorem dX11_init_194 : decode cX11_init 194 = .ok (.sipush 20160, 3) := by decide +kernel
theorem dX11_init_197 : decode cX11_init 197 = .ok (.newarray .int, 2) := by decide +kernel
theorem dX11_init_199 : decode cX11_init 199 = .ok (.putfield 81, 3) := by decide +kernel
theorem dX11_init_202 : decode cX11_init 202 = .ok (.aload_n 0, 1) := by decide +kernel
theorem dX11_init_203 : decode cX11_init 203 = .ok (.getfield 13, 3) := by decide +kernel
theorem dX11_init_206 : decode cX11_init 206 = .ok (.invokestatic 84, 3) := by decide +kernel
theorem dX11_init_209 : decode cX11_init 209 = .ok (.return_, 1) := by decide +kernel
theorem dX11_begins_0 : decode cX11_begins 0 = .ok (.aload_n 0, 1) := by decide +kernel
theorem dX11_begins_1 : decode cX11_begins 1 = .ok (.iconst 0, 1) := by decide +kernel
theorem dX11_begins_2 : decode cX11_begins 2 = .ok (.sipush 270, 3) := by decide +kernel
theorem dX11_begins_5 : decode cX11_begins 5 = .ok (.iastore, 1) := by decide +kernel
theorem dX11_begins_6 : decode cX11_begins 6 = .ok (.aload_n 0, 1) := by decide +kernel
theorem dX11_begins_7 : decode cX11_begins 7 = .ok (.iconst 1, 1) := by decide +kernel
theorem dX11_begins_8 : decode cX11_begins 8 = .ok (.bipush 45, 2) := by decide +kernel
theorem dX11_begins_10 : decode cX11_begins 10 = .ok (.iastore, 1) := by decide +kernel
theorem dX11_begins_11 : decode cX11_begins 11 = .ok (.aload_n 0, 1) := by decide +kernel
theorem dX11_begins_12 : decode cX11_begins 12 = .ok (.iconst 2, 1) := by decide +kernel
theorem dX11_begins_13 : decode cX11_begins 13 = .ok (.bipush 15, 2) := by decide +kernel
theorem dX11_begins_15 : decode cX11_begins 15 = .ok (.iastore, 1) := by decide +kernel
theorem dX11_begins_16 : decode cX11_begins 16 = .ok (.aload_n 0, 1) := by decide +kernel
theorem dX11_begins_17 : decode cX11_begins 17 = .ok (.iconst 3, 1) := by decide +kernel
theorem dX11_begins_18 : decode cX11_begins 18 = .ok (.bipush 30, 2) := by decide +kernel
theorem dX11_begins_20 : decode cX11_begins 20 = .ok (.iastore, 1) := by decide +kernel
theorem dX11_begins_21 : decode cX11_begins 21 = .ok (.aload_n 0, 1) := by decide +kernel
theorem dX11_begins_22 : decode cX11_begins 22 = .ok (.iconst 4, 1) := by decide +kernel
theorem dX11_begins_23 : decode cX11_begins 23 = .ok (.sipush 540, 3) := by decide +kernel
theorem dX11_begins_26 : decode cX11_begins 26 = .ok (.iastore, 1) := by decide +kernel
theorem dX11_begins_27 : decode cX11_begins 27 = .ok (.aload_n 0, 1) := by decide +kernel
theorem dX11_begins_28 : decode cX11_begins 28 = .ok (.iconst 5, 1) := by decide +kernel
theorem dX11_begins_29 : decode cX11_begins 29 = .ok (.sipush 600, 3) := by decide +kernel
theorem dX11_begins_32 : decode cX11_begins 32 = .ok (.iastore, 1) := by decide +kernel
theorem dX11_begins_33 : decode cX11_begins 33 = .ok (.aload_n 0, 1) := by decide +kernel
theorem dX11_begins_34 : decode cX11_begins 34 = .ok (.bipush 6, 2) := by decide +kernel
theorem dX11_begins_36 : decode cX11_begins 36 = .ok (.iconst 2, 1) := by decide +kernel
theorem dX11_begins_37 : decode cX11_begins 37 = .ok (.iastore, 1) := by decide +kernel
theorem dX11_begins_38 : decode cX11_begins 38 = .ok (.aload_n 0, 1) := by decide +kernel
theorem dX11_begins_39 : decode cX11_begins 39 = .ok (.bipush 7, 2) := by decide +kernel
theorem dX11_begins_41 : decode cX11_begins 41 = .ok (.sipush 660, 3) := by decide +kernel
theorem dX11_begins_44 : decode cX11_begins 44 = .ok (.iastore, 1) := by decide +kernel
theorem dX11_begins_45 : decode cX11_begins 45 = .ok (.aload_n 0, 1) := by decide +kernel
theorem dX11_begins_46 : decode cX11_begins 46 = .ok (.bipush 8, 2) := by decide +kernel
theorem dX11_begins_48 : decode cX11_begins 48 = .ok (.sipush 540, 3) := by decide +kernel
theorem dX11_begins_51 : decode cX11_begins 51 = .ok (.iastore, 1) := by decide +kernel
theorem dX11_begins_52 : decode cX11_begins 52 = .ok (.aload_n 0, 1) := by decide +kernel
theorem dX11_begins_53 : decode cX11_begins 53 = .ok (.bipush 9, 2) := by decide +kernel
theorem dX11_begins_55 : decode cX11_begins 55 = .ok (.iconst 3, 1) := by decide +kernel
theorem dX11_begins_56 : decode cX11_begins 56 = .ok (.iastore, 1) := by decide +kernel
theorem dX11_begins_57 : decode cX11_begins 57 = .ok (.aload_n 0, 1) := by decide +kernel
theorem dX11_begins_58 : decode cX11_begins 58 = .ok (.bipush 10, 2) := by decide +kernel
theorem dX11_begins_60 : decode cX11_begins 60 = .ok (.sipush 3360, 3) := by decide +kernel
theorem dX11_begins_63 : decode cX11_begins 63 = .ok (.iastore, 1) := by decide +kernel
theorem dX11_begins_64 : decode cX11_begins 64 = .ok (.return_, 1) := by decide +kernel
theorem dX11_types_0 : decode cX11_types 0 = .ok (.iconst 3, 1) := by decide +kernel
theorem dX11_types_1 : decode cX11_types 1 = .ok (.istore_n 2, 1) := by decide +kernel
theorem dX11_types_2 : decode cX11_types 2 = .ok (.iload_n 2, 1) := by decide +kernel
theorem dX11_types_3 : decode cX11_types 3 = .ok (.ifCond .lt 35, 3) := by decide +kernel
theorem dX11_types_6 : decode cX11_types 6 = .ok (.aload_n 0, 1) := by decide +kernel
theorem dX11_types_7 : decode cX11_types 7 = .ok (.getfield 7, 3) := by decide +kernel
theorem dX11_types_10 : decode cX11_types 10 = .ok (.aload_n 0, 1) := by decide +kernel
theorem dX11_types_11 : decode cX11_types 11 = .ok (.getfield 88, 3) := by decide +kernel
theorem dX11_types_14 : decode cX11_types 14 = .ok (.iload_n 1, 1) := by decide +kernel
theorem dX11_types_15 : decode cX11_types 15 = .ok (.bipush 8, 2) := by decide +kernel
theorem dX11_types_17 : decode cX11_types 17 = .ok (.iload_n 2, 1) := by decide +kernel
theorem dX11_types_18 : decode cX11_types 18 = .ok (.imul, 1) := by decide +kernel
theorem dX11_types_19 : decode cX11_types 19 = .ok (.ishr, 1) := by decide +kernel
theorem dX11_types_20 : decode cX11_types 20 = .ok (.i2b, 1) := by decide +kernel
theorem dX11_types_21 : decode cX11_types 21 = .ok (.bastore, 1) := by decide +kernel
theorem dX11_types_22 : decode cX11_types 22 = .ok (.aload_n 0, 1) := by decide +kernel
theorem dX11_types_23 : decode cX11_types 23 = .ok (.aload_n 0, 1) := by decide +kernel
theorem dX11_types_24 : decode cX11_types 24 = .ok (.getfield 88, 3) := by decide +kernel
theorem dX11_types_27 : decode cX11_types 27 = .ok (.iconst 1, 1) := by decide +kernel
theorem dX11_types_28 : decode cX11_types 28 = .ok (.iadd, 1) := by decide +kernel
theorem dX11_types_29 : decode cX11_types 29 = .ok (.putfield 88, 3) := by decide +kernel
theorem dX11_types_32 : decode cX11_types 32 = .ok (.iinc 2 (-1), 3) := by decide +kernel
theorem dX11_types_35 : decode cX11_types 35 = .ok (.goto (-33), 3) := by decide +kernel
theorem dX11_types_38 : decode cX11_types 38 = .ok (.return_, 1) := by decide +kernel
theorem dX11_feed_0 : decode cX11_feed 0 = .ok (.aload_n 0, 1) := by decide +kernel
theorem dX11_feed_1 : decode cX11_feed 1 = .ok (.getfield 88, 3) := by decide +kernel
theorem dX11_feed_4 : decode cX11_feed 4 = .ok (.bipush 20, 2) := by decide +kernel
theorem dX11_feed_6 : decode cX11_feed 6 = .ok (.iadd, 1) := by decide +kernel
theorem dX11_feed_7 : decode cX11_feed 7 = .ok (.bipush 80, 2) := by decide +kernel
theorem dX11_feed_9 : decode cX11_feed 9 = .ok (.if_icmp .le 5, 3) := by decide +kernel
theorem dX11_feed_12 : decode cX11_feed 12 = .ok (.iconst (-1), 1) := by decide +kernel
theorem dX11_feed_13 : decode cX11_feed 13 = .ok (.ireturn, 1) := by decide +kernel
theorem dX11_feed_14 : decode cX11_feed 14 = .ok (.aload_n 0, 1) := by decide +kernel
theorem dX11_feed_15 : decode cX11_feed 15 = .ok (.iload_n 1, 1) := by decide +kernel
theorem dX11_feed_16 : decode cX11_feed 16 = .ok (.invokevirtual 92, 3) := by decide +kernel
theorem dX11_feed_19 : decode cX11_feed 19 = .ok (.aload_n 0, 1) := by decide +kernel
theorem dX11_feed_20 : decode cX11_feed 20 = .ok (.iload_n 2, 1) := by decide +kernel
theorem dX11_feed_21 : decode cX11_feed 21 = .ok (.invokevirtual 92, 3) := by decide +kernel
theorem dX11_feed_24 : decode cX11_feed 24 = .ok (.aload_n 0, 1) := by decide +kernel
theorem dX11_feed_25 : decode cX11_feed 25 = .ok (.iload_n 3, 1) := by decide +kernel
theorem dX11_feed_26 : decode cX11_feed 26 = .ok (.invokevirtual 92, 3) := by decide +kernel
theorem dX11_feed_29 : decode cX11_feed 29 = .ok (.aload_n 0, 1) := by decide +kernel
theorem dX11_feed_30 : decode cX11_feed 30 = .ok (.iload 4, 2) := by decide +kernel
theorem dX11_feed_32 : decode cX11_feed 32 = .ok (.invokevirtual 92, 3) := by decide +kernel
theorem dX11_feed_35 : decode cX11_feed 35 = .ok (.aload_n 0, 1) := by decide +kernel
theorem dX11_feed_36 : decode cX11_feed 36 = .ok (.iload 5, 2) := by decide +kernel
theorem dX11_feed_38 : decode cX11_feed 38 = .ok (.invokevirtual 92, 3) := by decide +kernel
theorem dX11_feed_41 : decode cX11_feed 41 = .ok (.aload_n 0, 1) := by decide +kernel
theorem dX11_feed_42 : decode cX11_feed 42 = .ok (.getfield 88, 3) := by decide +kernel
theorem dX11_feed_45 : decode cX11_feed 45 = .ok (.ireturn, 1) := by decide +kernel
theorem dX11_letterOf_0 : decode cX11_letterOf 0 = .ok (.iload_n 0, 1) := by decide +kernel
theorem dX11_letterOf_1 : decode cX11_letterOf 1 = .ok (.tableswitch 138 98 121 #[113, 111, 119, 121, 138, 138, 138, 138, 138, 138, 138, 138, 138, 138, 138, 129, 126, 115, 117, 138, 138, 135, 123, 132], 111) := by decide +kernel
theorem dX11_letterOf_112 : decode cX11_letterOf 112 = .ok (.iconst 0, 1) := by decide +kernel
theorem dX11_letterOf_113 : decode cX11_letterOf 113 = .ok (.ireturn, 1) := by decide +kernel
theorem dX11_letterOf_114 : decode cX11_letterOf 114 = .ok (.iconst 1, 1) := by decide +kernel
theorem dX11_letterOf_115 : decode cX11_letterOf 115 = .ok (.ireturn, 1) := by decide +kernel
theorem dX11_letterOf_116 : decode cX11_letterOf 116 = .ok (.iconst 2, 1) := by decide +kernel
theorem dX11_letterOf_117 : decode cX11_letterOf 117 = .ok (.ireturn, 1) := by decide +kernel
theorem dX11_letterOf_118 : decode cX11_letterOf 118 = .ok (.iconst 3, 1) := by decide +kernel
theorem dX11_letterOf_119 : decode cX11_letterOf 119 = .ok (.ireturn, 1) := by decide +kernel
theorem dX11_letterOf_120 : decode cX11_letterOf 120 = .ok (.iconst 4, 1) := by decide +kernel
theorem dX11_letterOf_121 : decode cX11_letterOf 121 = .ok (.ireturn, 1) := by decide +kernel
theorem dX11_letterOf_122 : decode cX11_letterOf 122 = .ok (.iconst 5, 1) := by decide +kernel
theorem dX11_letterOf_123 : decode cX11_letterOf 123 = .ok (.ireturn, 1) := by decide +kernel
theorem dX11_letterOf_124 : decode cX11_letterOf 124 = .ok (.bipush 6, 2) := by decide +kernel
theorem dX11_letterOf_126 : decode cX11_letterOf 126 = .ok (.ireturn, 1) := by decide +kernel
theorem dX11_letterOf_127 : decode cX11_letterOf 127 = .ok (.bipush 7, 2) := by decide +kernel
theorem dX11_letterOf_129 : decode cX11_letterOf 129 = .ok (.ireturn, 1) := by decide +kernel
theorem dX11_letterOf_130 : decode cX11_letterOf 130 = .ok (.bipush 8, 2) := by decide +kernel
theorem dX11_letterOf_132 : decode cX11_letterOf 132 = .ok (.ireturn, 1) := by decide +kernel
theorem dX11_letterOf_133 : decode cX11_letterOf 133 = .ok (.bipush 9, 2) := by decide +kernel
theorem dX11_letterOf_135 : decode cX11_letterOf 135 = .ok (.ireturn, 1) := by decide +kernel
theorem dX11_letterOf_136 : decode cX11_letterOf 136 = .ok (.bipush 10, 2) := by decide +kernel
theorem dX11_letterOf_138 : decode cX11_letterOf 138 = .ok (.ireturn, 1) := by decide +kernel
theorem dX11_letterOf_139 : decode cX11_letterOf 139 = .ok (.iconst (-1), 1) := by decide +kernel
theorem dX11_letterOf_140 : decode cX11_letterOf 140 = .ok (.ireturn, 1) := by decide +kernel
theorem dX11_canBe_0 : decode cX11_canBe 0 = .ok (.iload_n 0, 1) := by decide +kernel
theorem dX11_canBe_1 : decode cX11_canBe 1 = .ok (.bipush 6, 2) := by decide +kernel
theorem dX11_canBe_3 : decode cX11_canBe 3 = .ok (.if_icmp .eq 9, 3) := by decide +kernel
theorem dX11_canBe_6 : decode cX11_canBe 6 = .ok (.iload_n 0, 1) := by decide +kernel
theorem dX11_canBe_7 : decode cX11_canBe 7 = .ok (.bipush 9, 2) := by decide +kernel
theorem dX11_canBe_9 : decode cX11_canBe 9 = .ok (.if_icmp .ne 17, 3) := by decide +kernel
theorem dX11_canBe_12 : decode cX11_canBe 12 = .ok (.iload_n 1, 1) := by decide +kernel
theorem dX11_canBe_13 : decode cX11_canBe 13 = .ok (.bipush 99, 2) := by decide +kernel
theorem dX11_canBe_15 : decode cX11_canBe 15 = .ok (.if_icmp .gt 7, 3) := by decide +kernel
theorem dX11_canBe_18 : decode cX11_canBe 18 = .ok (.iconst 1, 1) := by decide +kernel
theorem dX11_canBe_19 : decode cX11_canBe 19 = .ok (.goto 17, 3) := by decide +kernel
theorem dX11_canBe_22 : decode cX11_canBe 22 = .ok (.iconst 0, 1) := by decide +kernel
theorem dX11_canBe_23 : decode cX11_canBe 23 = .ok (.goto 13, 3) := by decide +kernel
theorem dX11_canBe_26 : decode cX11_canBe 26 = .ok (.iload_n 1, 1) := by decide +kernel
theorem dX11_canBe_27 : decode cX11_canBe 27 = .ok (.iconst 1, 1) := by decide +kernel
theorem dX11_canBe_28 : decode cX11_canBe 28 = .ok (.if_icmp .lt 7, 3) := by decide +kernel
theorem dX11_canBe_31 : decode cX11_canBe 31 = .ok (.iconst 1, 1) := by decide +kernel
theorem dX11_canBe_32 : decode cX11_canBe 32 = .ok (.goto 4, 3) := by decide +kernel
theorem dX11_canBe_35 : decode cX11_canBe 35 = .ok (.iconst 0, 1) := by decide +kernel
theorem dX11_canBe_36 : decode cX11_canBe 36 = .ok (.ireturn, 1) := by decide +kernel
theorem dX11_isDigit_0 : decode cX11_isDigit 0 = .ok (.iload_n 1, 1) := by decide +kernel
theorem dX11_isDigit_1 : decode cX11_isDigit 1 = .ok (.iload_n 2, 1) := by decide +kernel
theorem dX11_isDigit_2 : decode cX11_isDigit 2 = .ok (.if_icmp .ge 29, 3) := by decide +kernel
theorem dX11_isDigit_5 : decode cX11_isDigit 5 = .ok (.aload_n 0, 1) := by decide +kernel
theorem dX11_isDigit_6 : decode cX11_isDigit 6 = .ok (.getfield 7, 3) := by decide +kernel
theorem dX11_isDigit_9 : decode cX11_isDigit 9 = .ok (.iload_n 1, 1) := by decide +kernel
theorem dX11_isDigit_10 : decode cX11_isDigit 10 = .ok (.baload, 1) := by decide +kernel
theorem dX11_isDigit_11 : decode cX11_isDigit 11 = .ok (.bipush 48, 2) := by decide +kernel
theorem dX11_isDigit_13 : decode cX11_isDigit 13 = .ok (.if_icmp .lt 18, 3) := by decide +kernel
theorem dX11_isDigit_16 : decode cX11_isDigit 16 = .ok (.aload_n 0, 1) := by decide +kernel
theorem dX11_isDigit_17 : decode cX11_isDigit 17 = .ok (.getfield 7, 3) := by decide +kernel
theorem dX11_isDigit_20 : decode cX11_isDigit 20 = .ok (.iload_n 1, 1) := by decide +kernel
theorem dX11_isDigit_21 : decode cX11_isDigit 21 = .ok (.baload, 1) := by decide +kernel
theorem dX11_isDigit_22 : decode cX11_isDigit 22 = .ok (.bipush 57, 2) := by decide +kernel
theorem dX11_isDigit_24 : decode cX11_isDigit 24 = .ok (.if_icmp .gt 7, 3) := by decide +kernel
theorem dX11_isDigit_27 : decode cX11_isDigit 27 = .ok (.iconst 1, 1) := by decide +kernel
theorem dX11_isDigit_28 : decode cX11_isDigit 28 = .ok (.goto 4, 3) := by decide +kernel
theorem dX11_isDigit_31 : decode cX11_isDigit 31 = .ok (.iconst 0, 1) := by decide +kernel
theorem dX11_isDigit_32 : decode cX11_isDigit 32 = .ok (.ireturn, 1) := by decide +kernel
theorem dX11_parse_0 : decode cX11_parse 0 = .ok (.iconst 0, 1) := by decide +kernel
theorem dX11_parse_1 : decode cX11_parse 1 = .ok (.istore_n 2, 1) := by decide +kernel
theorem dX11_parse_2 : decode cX11_parse 2 = .ok (.iload_n 2, 1) := by decide +kernel
theorem dX11_parse_3 : decode cX11_parse 3 = .ok (.iload_n 1, 1) := by decide +kernel
theorem dX11_parse_4 : decode cX11_parse 4 = .ok (.if_icmp .ge 15, 3) := by decide +kernel
theorem dX11_parse_7 : decode cX11_parse 7 = .ok (.aload_n 0, 1) := by decide +kernel
theorem dX11_parse_8 : decode cX11_parse 8 = .ok (.getfield 7, 3) := by decide +kernel
theorem dX11_parse_11 : decode cX11_parse 11 = .ok (.iload_n 2, 1) := by decide +kernel
theorem dX11_parse_12 : decode cX11_parse 12 = .ok (.baload, 1) := by decide +kernel
theorem dX11_parse_13 : decode cX11_parse 13 = .ok (.invokestatic 96, 3) := by decide +kernel
theorem dX11_parse_16 : decode cX11_parse 16 = .ok (.goto 4, 3) := by decide +kernel
theorem dX11_parse_19 : decode cX11_parse 19 = .ok (.iconst (-1), 1) := by decide +kernel
theorem dX11_parse_20 : decode cX11_parse 20 = .ok (.istore_n 3, 1) := by decide +kernel
theorem dX11_parse_21 : decode cX11_parse 21 = .ok (.iload_n 3, 1) := by decide +kernel
theorem dX11_parse_22 : decode cX11_parse 22 = .ok (.iconst (-1), 1) := by decide +kernel
theorem dX11_parse_23 : decode cX11_parse 23 = .ok (.if_icmp .ne 8, 3) := by decide +kernel
theorem dX11_parse_26 : decode cX11_parse 26 = .ok (.bipush 100, 2) := by decide +kernel
theorem dX11_parse_28 : decode cX11_parse 28 = .ok (.iload_n 2, 1) := by decide +kernel
theorem dX11_parse_29 : decode cX11_parse 29 = .ok (.iadd, 1) := by decide +kernel
theorem dX11_parse_30 : decode cX11_parse 30 = .ok (.ireturn, 1) := by decide +kernel
theorem dX11_parse_31 : decode cX11_parse 31 = .ok (.iload_n 2, 1) := by decide +kernel
theorem dX11_parse_32 : decode cX11_parse 32 = .ok (.iconst 1, 1) := by decide +kernel
theorem dX11_parse_33 : decode cX11_parse 33 = .ok (.iadd, 1) := by decide +kernel
theorem dX11_parse_34 : decode cX11_parse 34 = .ok (.istore_n 2, 1) := by decide +kernel
theorem dX11_parse_35 : decode cX11_parse 35 = .ok (.iload_n 2, 1) := by decide +kernel
theorem dX11_parse_36 : decode cX11_parse 36 = .ok (.istore 4, 2) := by decide +kernel
theorem dX11_parse_38 : decode cX11_parse 38 = .ok (.aload_n 0, 1) := by decide +kernel
theorem dX11_parse_39 : decode cX11_parse 39 = .ok (.iload_n 2, 1) := by decide +kernel
theorem dX11_parse_40 : decode cX11_parse 40 = .ok (.iload_n 1, 1) := by decide +kernel
theorem dX11_parse_41 : decode cX11_parse 41 = .ok (.invokevirtual 100, 3) := by decide +kernel
theorem dX11_parse_44 : decode cX11_parse 44 = .ok (.ifCond .ne 9, 3) := by decide +kernel
theorem dX11_parse_47 : decode cX11_parse 47 = .ok (.sipush 200, 3) := by decide +kernel
theorem dX11_parse_50 : decode cX11_parse 50 = .ok (.iload_n 2, 1) := by decide +kernel
theorem dX11_parse_51 : decode cX11_parse 51 = .ok (.iadd, 1) := by decide +kernel
theorem dX11_parse_52 : decode cX11_parse 52 = .ok (.ireturn, 1) := by decide +kernel
theorem dX11_parse_53 : decode cX11_parse 53 = .ok (.iconst 0, 1) := by decide +kernel
theorem dX11_parse_54 : decode cX11_parse 54 = .ok (.istore 5, 2) := by decide +kernel
theorem dX11_parse_56 : decode cX11_parse 56 = .ok (.aload_n 0, 1) := by decide +kernel
theorem dX11_parse_57 : decode cX11_parse 57 = .ok (.iload_n 2, 1) := by decide +kernel
theorem dX11_parse_58 : decode cX11_parse 58 = .ok (.iload_n 1, 1) := by decide +kernel
theorem dX11_parse_59 : decode cX11_parse 59 = .ok (.invokevirtual 100, 3) := by decide +kernel
theorem dX11_parse_62 : decode cX11_parse 62 = .ok (.ifCond .eq 41, 3) := by decide +kernel
theorem dX11_parse_65 : decode cX11_parse 65 = .ok (.iload_n 2, 1) := by decide +kernel
theorem dX11_parse_66 : decode cX11_parse 66 = .ok (.iload 4, 2) := by decide +kernel
theorem dX11_parse_68 : decode cX11_parse 68 = .ok (.iconst 4, 1) := by decide +kernel
theorem dX11_parse_69 : decode cX11_parse 69 = .ok (.iadd, 1) := by decide +kernel
theorem dX11_parse_70 : decode cX11_parse 70 = .ok (.if_icmp .ne 9, 3) := by decide +kernel
theorem dX11_parse_73 : decode cX11_parse 73 = .ok (.sipush 300, 3) := by decide +kernel
theorem dX11_parse_76 : decode cX11_parse 76 = .ok (.iload_n 2, 1) := by decide +kernel
theorem dX11_parse_77 : decode cX11_parse 77 = .ok (.iadd, 1) := by decide +kernel
theorem dX11_parse_78 : decode cX11_parse 78 = .ok (.ireturn, 1) := by decide +kernel
theorem dX11_parse_79 : decode cX11_parse 79 = .ok (.bipush 10, 2) := by decide +kernel
theorem dX11_parse_81 : decode cX11_parse 81 = .ok (.iload 5, 2) := by decide +kernel
theorem dX11_parse_83 : decode cX11_parse 83 = .ok (.imul, 1) := by decide +kernel
theorem dX11_parse_84 : decode cX11_parse 84 = .ok (.aload_n 0, 1) := by decide +kernel
theorem dX11_parse_85 : decode cX11_parse 85 = .ok (.getfield 7, 3) := by decide +kernel
theorem dX11_parse_88 : decode cX11_parse 88 = .ok (.iload_n 2, 1) := by decide +kernel
theorem dX11_parse_89 : decode cX11_parse 89 = .ok (.baload, 1) := by decide +kernel
theorem dX11_parse_90 : decode cX11_parse 90 = .ok (.iadd, 1) := by decide +kernel
theorem dX11_parse_91 : decode cX11_parse 91 = .ok (.bipush 48, 2) := by decide +kernel
theorem dX11_parse_93 : decode cX11_parse 93 = .ok (.isub, 1) := by decide +kernel
theorem dX11_parse_94 : decode cX11_parse 94 = .ok (.istore 5, 2) := by decide +kernel
theorem dX11_parse_96 : decode cX11_parse 96 = .ok (.iload_n 2, 1) := by decide +kernel
theorem dX11_parse_97 : decode cX11_parse 97 = .ok (.iconst 1, 1) := by decide +kernel
theorem dX11_parse_98 : decode cX11_parse 98 = .ok (.iadd, 1) := by decide +kernel
theorem dX11_parse_99 : decode cX11_parse 99 = .ok (.istore_n 2, 1) := by decide +kernel
theorem dX11_parse_100 : decode cX11_parse 100 = .ok (.goto (-44), 3) := by decide +kernel
theorem dX11_parse_103 : decode cX11_parse 103 = .ok (.iload_n 3, 1) := by decide +kernel
theorem dX11_parse_104 : decode cX11_parse 104 = .ok (.iload 5, 2) := by decide +kernel
theorem dX11_parse_106 : decode cX11_parse 106 = .ok (.invokestatic 104, 3) := by decide +kernel
theorem dX11_parse_109 : decode cX11_parse 109 = .ok (.ifCond .ne 10, 3) := by decide +kernel
theorem dX11_parse_112 : decode cX11_parse 112 = .ok (.sipush 400, 3) := by decide +kernel
theorem dX11_parse_115 : decode cX11_parse 115 = .ok (.iload 4, 2) := by decide +kernel
theorem dX11_parse_117 : decode cX11_parse 117 = .ok (.iadd, 1) := by decide +kernel
theorem dX11_parse_118 : decode cX11_parse 118 = .ok (.ireturn, 1) := by decide +kernel
theorem dX11_parse_119 : decode cX11_parse 119 = .ok (.aload_n 0, 1) := by decide +kernel
theorem dX11_parse_120 : decode cX11_parse 120 = .ok (.getfield 17, 3) := by decide +kernel
theorem dX11_parse_123 : decode cX11_parse 123 = .ok (.iload_n 3, 1) := by decide +kernel
theorem dX11_parse_124 : decode cX11_parse 124 = .ok (.iload 5, 2) := by decide +kernel
theorem dX11_parse_126 : decode cX11_parse 126 = .ok (.iastore, 1) := by decide +kernel
theorem dX11_parse_127 : decode cX11_parse 127 = .ok (.iload_n 2, 1) := by decide +kernel
theorem dX11_parse_128 : decode cX11_parse 128 = .ok (.iload_n 1, 1) := by decide +kernel
theorem dX11_parse_129 : decode cX11_parse 129 = .ok (.if_icmp .ne 5, 3) := by decide +kernel
theorem dX11_parse_132 : decode cX11_parse 132 = .ok (.iconst 0, 1) := by decide +kernel
theorem dX11_parse_133 : decode cX11_parse 133 = .ok (.ireturn, 1) := by decide +kernel
theorem dX11_parse_134 : decode cX11_parse 134 = .ok (.aload_n 0, 1) := by decide +kernel
theorem dX11_parse_135 : decode cX11_parse 135 = .ok (.getfield 7, 3) := by decide +kernel
theorem dX11_parse_138 : decode cX11_parse 138 = .ok (.iload_n 2, 1) := by decide +kernel
theorem dX11_parse_139 : decode cX11_parse 139 = .ok (.baload, 1) := by decide +kernel
theorem dX11_parse_140 : decode cX11_parse 140 = .ok (.bipush 59, 2) := by decide +kernel
theorem dX11_parse_142 : decode cX11_parse 142 = .ok (.if_icmp .eq 9, 3) := by decide +kernel
theorem dX11_parse_145 : decode cX11_parse 145 = .ok (.sipush 500, 3) := by decide +kernel
theorem dX11_parse_148 : decode cX11_parse 148 = .ok (.iload_n 2, 1) := by decide +kernel
theorem dX11_parse_149 : decode cX11_parse 149 = .ok (.iadd, 1) := by decide +kernel
theorem dX11_parse_150 : decode cX11_parse 150 = .ok (.ireturn, 1) := by decide +kernel
theorem dX11_parse_151 : decode cX11_parse 151 = .ok (.iload_n 2, 1) := by decide +kernel
theorem dX11_parse_152 : decode cX11_parse 152 = .ok (.iconst 1, 1) := by decide +kernel
theorem dX11_parse_153 : decode cX11_parse 153 = .ok (.iadd, 1) := by decide +kernel
theorem dX11_parse_154 : decode cX11_parse 154 = .ok (.istore_n 2, 1) := by decide +kernel
theorem dX11_parse_155 : decode cX11_parse 155 = .ok (.goto (-153), 3) := by decide +kernel
theorem dX11_law_0 : decode cX11_law 0 = .ok (.iload_n 1, 1) := by decide +kernel
theorem dX11_law_1 : decode cX11_law 1 = .ok (.ifCond .lt 11, 3) := by decide +kernel
theorem dX11_law_4 : decode cX11_law 4 = .ok (.iload_n 1, 1) := by decide +kernel
theorem dX11_law_5 : decode cX11_law 5 = .ok (.aload_n 0, 1) := by decide +kernel
theorem dX11_law_6 : decode cX11_law 6 = .ok (.getfield 88, 3) := by decide +kernel
theorem dX11_law_9 : decode cX11_law 9 = .ok (.if_icmp .le 5, 3) := by decide +kernel
theorem dX11_law_12 : decode cX11_law 12 = .ok (.iconst (-1), 1) := by decide +kernel
theorem dX11_law_13 : decode cX11_law 13 = .ok (.ireturn, 1) := by decide +kernel
theorem dX11_law_14 : decode cX11_law 14 = .ok (.aload_n 0, 1) := by decide +kernel
theorem dX11_law_15 : decode cX11_law 15 = .ok (.getfield 17, 3) := by decide +kernel
theorem dX11_law_18 : decode cX11_law 18 = .ok (.invokestatic 84, 3) := by decide +kernel
theorem dX11_law_21 : decode cX11_law 21 = .ok (.aload_n 0, 1) := by decide +kernel
theorem dX11_law_22 : decode cX11_law 22 = .ok (.iload_n 1, 1) := by decide +kernel
theorem dX11_law_23 : decode cX11_law 23 = .ok (.invokevirtual 107, 3) := by decide +kernel
theorem dX11_law_26 : decode cX11_law 26 = .ok (.istore_n 2, 1) := by decide +kernel
theorem dX11_law_27 : decode cX11_law 27 = .ok (.aload_n 0, 1) := by decide +kernel
theorem dX11_law_28 : decode cX11_law 28 = .ok (.iconst 0, 1) := by decide +kernel
theorem dX11_law_29 : decode cX11_law 29 = .ok (.putfield 88, 3) := by decide +kernel
theorem dX11_law_32 : decode cX11_law 32 = .ok (.iconst 0, 1) := by decide +kernel
theorem dX11_law_33 : decode cX11_law 33 = .ok (.istore_n 3, 1) := by decide +kernel
theorem dX11_law_34 : decode cX11_law 34 = .ok (.iload_n 3, 1) := by decide +kernel
theorem dX11_law_35 : decode cX11_law 35 = .ok (.bipush 11, 2) := by decide +kernel
theorem dX11_law_37 : decode cX11_law 37 = .ok (.if_icmp .ge 25, 3) := by decide +kernel
theorem dX11_law_40 : decode cX11_law 40 = .ok (.iload_n 2, 1) := by decide +kernel
theorem dX11_law_41 : decode cX11_law 41 = .ok (.ifCond .ne 21, 3) := by decide +kernel
theorem dX11_law_44 : decode cX11_law 44 = .ok (.aload_n 0, 1) := by decide +kernel
theorem dX11_law_45 : decode cX11_law 45 = .ok (.getfield 13, 3) := by decide +kernel
theorem dX11_law_48 : decode cX11_law 48 = .ok (.iload_n 3, 1) := by decide +kernel
theorem dX11_law_49 : decode cX11_law 49 = .ok (.aload_n 0, 1) := by decide +kernel
theorem dX11_law_50 : decode cX11_law 50 = .ok (.getfield 17, 3) := by decide +kernel
theorem dX11_law_53 : decode cX11_law 53 = .ok (.iload_n 3, 1) := by decide +kernel
theorem dX11_law_54 : decode cX11_law 54 = .ok (.iaload, 1) := by decide +kernel
theorem dX11_law_55 : decode cX11_law 55 = .ok (.iastore, 1) := by decide +kernel
theorem dX11_law_56 : decode cX11_law 56 = .ok (.iinc 3 1, 3) := by decide +kernel
theorem dX11_law_59 : decode cX11_law 59 = .ok (.goto (-25), 3) := by decide +kernel
theorem dX11_law_62 : decode cX11_law 62 = .ok (.iload_n 2, 1) := by decide +kernel
theorem dX11_law_63 : decode cX11_law 63 = .ok (.ireturn, 1) := by decide +kernel
theorem dX11_rule_0 : decode cX11_rule 0 = .ok (.iload_n 1, 1) := by decide +kernel
theorem dX11_rule_1 : decode cX11_rule 1 = .ok (.invokestatic 96, 3) := by decide +kernel
theorem dX11_rule_4 : decode cX11_rule 4 = .ok (.istore_n 2, 1) := by decide +kernel
theorem dX11_rule_5 : decode cX11_rule 5 = .ok (.iload_n 2, 1) := by decide +kernel
theorem dX11_rule_6 : decode cX11_rule 6 = .ok (.iconst (-1), 1) := by decide +kernel
theorem dX11_rule_7 : decode cX11_rule 7 = .ok (.if_icmp .ne 7, 3) := by decide +kernel
theorem dX11_rule_10 : decode cX11_rule 10 = .ok (.iconst (-1), 1) := by decide +kernel
theorem dX11_rule_11 : decode cX11_rule 11 = .ok (.goto 9, 3) := by decide +kernel
theorem dX11_rule_14 : decode cX11_rule 14 = .ok (.aload_n 0, 1) := by decide +kernel
theorem dX11_rule_15 : decode cX11_rule 15 = .ok (.getfield 13, 3) := by decide +kernel
theorem dX11_rule_18 : decode cX11_rule 18 = .ok (.iload_n 2, 1) := by decide +kernel
theorem dX11_rule_19 : decode cX11_rule 19 = .ok (.iaload, 1) := by decide +kernel
theorem dX11_rule_20 : decode cX11_rule 20 = .ok (.ireturn, 1) := by decide +kernel
theorem dX11_isCard_0 : decode cX11_isCard 0 = .ok (.iload_n 0, 1) := by decide +kernel
theorem dX11_isCard_1 : decode cX11_isCard 1 = .ok (.ifCond .lt 12, 3) := by decide +kernel
theorem dX11_isCard_4 : decode cX11_isCard 4 = .ok (.iload_n 0, 1) := by decide +kernel
theorem dX11_isCard_5 : decode cX11_isCard 5 = .ok (.iconst 4, 1) := by decide +kernel
theorem dX11_isCard_6 : decode cX11_isCard 6 = .ok (.if_icmp .ge 7, 3) := by decide +kernel
theorem dX11_isCard_9 : decode cX11_isCard 9 = .ok (.iconst 1, 1) := by decide +kernel
theorem dX11_isCard_10 : decode cX11_isCard 10 = .ok (.goto 4, 3) := by decide +kernel
theorem dX11_isCard_13 : decode cX11_isCard 13 = .ok (.iconst 0, 1) := by decide +kernel
theorem dX11_isCard_14 : decode cX11_isCard 14 = .ok (.ireturn, 1) := by decide +kernel
theorem dX11_isKind_0 : decode cX11_isKind 0 = .ok (.iload_n 0, 1) := by decide +kernel
theorem dX11_isKind_1 : decode cX11_isKind 1 = .ok (.ifCond .lt 25, 3) := by decide +kernel
theorem dX11_isKind_4 : decode cX11_isKind 4 = .ok (.iload_n 0, 1) := by decide +kernel
theorem dX11_isKind_5 : decode cX11_isKind 5 = .ok (.iconst 4, 1) := by decide +kernel
theorem dX11_isKind_6 : decode cX11_isKind 6 = .ok (.if_icmp .gt 20, 3) := by decide +kernel
theorem dX11_isKind_9 : decode cX11_isKind 9 = .ok (.iload_n 0, 1) := by decide +kernel
theorem dX11_isKind_10 : decode cX11_isKind 10 = .ok (.ifCond .ne 12, 3) := by decide +kernel
theorem dX11_isKind_13 : decode cX11_isKind 13 = .ok (.iload_n 1, 1) := by decide +kernel
theorem dX11_isKind_14 : decode cX11_isKind 14 = .ok (.ifCond .eq 8, 3) := by decide +kernel
theorem dX11_isKind_17 : decode cX11_isKind 17 = .ok (.iload_n 1, 1) := by decide +kernel
theorem dX11_isKind_18 : decode cX11_isKind 18 = .ok (.iconst 1, 1) := by decide +kernel
theorem dX11_isKind_19 : decode cX11_isKind 19 = .ok (.if_icmp .ne 7, 3) := by decide +kernel
theorem dX11_isKind_22 : decode cX11_isKind 22 = .ok (.iconst 1, 1) := by decide +kernel
theorem dX11_isKind_23 : decode cX11_isKind 23 = .ok (.goto 4, 3) := by decide +kernel
theorem dX11_isKind_26 : decode cX11_isKind 26 = .ok (.iconst 0, 1) := by decide +kernel
theorem dX11_isKind_27 : decode cX11_isKind 27 = .ok (.ireturn, 1) := by decide +kernel
theorem dX11_act_0 : decode cX11_act 0 = .ok (.iload_n 1, 1) := by decide +kernel
theorem dX11_act_1 : decode cX11_act 1 = .ok (.invokestatic 110, 3) := by decide +kernel
theorem dX11_act_4 : decode cX11_act 4 = .ok (.ifCond .eq 49, 3) := by decide +kernel
theorem dX11_act_7 : decode cX11_act 7 = .ok (.iload_n 2, 1) := by decide +kernel
theorem dX11_act_8 : decode cX11_act 8 = .ok (.iload 4, 2) := by decide +kernel
theorem dX11_act_10 : decode cX11_act 10 = .ok (.invokestatic 114, 3) := by decide +kernel
theorem dX11_act_13 : decode cX11_act 13 = .ok (.ifCond .eq 40, 3) := by decide +kernel
theorem dX11_act_16 : decode cX11_act 16 = .ok (.iload_n 3, 1) := by decide +kernel
theorem dX11_act_17 : decode cX11_act 17 = .ok (.iconst 1, 1) := by decide +kernel
theorem dX11_act_18 : decode cX11_act 18 = .ok (.if_icmp .lt 35, 3) := by decide +kernel
theorem dX11_act_21 : decode cX11_act 21 = .ok (.iload_n 3, 1) := by decide +kernel
theorem dX11_act_22 : decode cX11_act 22 = .ok (.sipush 20160, 3) := by decide +kernel
theorem dX11_act_25 : decode cX11_act 25 = .ok (.if_icmp .gt 28, 3) := by decide +kernel
theorem dX11_act_28 : decode cX11_act 28 = .ok (.aload_n 0, 1) := by decide +kernel
theorem dX11_act_29 : decode cX11_act 29 = .ok (.getfield 20, 3) := by decide +kernel
theorem dX11_act_32 : decode cX11_act 32 = .ok (.iload_n 1, 1) := by decide +kernel
theorem dX11_act_33 : decode cX11_act 33 = .ok (.iaload, 1) := by decide +kernel
theorem dX11_act_34 : decode cX11_act 34 = .ok (.bipush 60, 2) := by decide +kernel
theorem dX11_act_36 : decode cX11_act 36 = .ok (.if_icmp .eq 17, 3) := by decide +kernel
theorem dX11_act_39 : decode cX11_act 39 = .ok (.aload_n 0, 1) := by decide +kernel
theorem dX11_act_40 : decode cX11_act 40 = .ok (.getfield 23, 3) := by decide +kernel
theorem dX11_act_43 : decode cX11_act 43 = .ok (.iload_n 1, 1) := by decide +kernel
theorem dX11_act_44 : decode cX11_act 44 = .ok (.iaload, 1) := by decide +kernel
theorem dX11_act_45 : decode cX11_act 45 = .ok (.iload_n 3, 1) := by decide +kernel
theorem dX11_act_46 : decode cX11_act 46 = .ok (.iadd, 1) := by decide +kernel
theorem dX11_act_47 : decode cX11_act 47 = .ok (.sipush 20160, 3) := by decide +kernel
theorem dX11_act_50 : decode cX11_act 50 = .ok (.if_icmp .le 5, 3) := by decide +kernel
theorem dX11_act_53 : decode cX11_act 53 = .ok (.iconst (-1), 1) := by decide +kernel
theorem dX11_act_54 : decode cX11_act 54 = .ok (.ireturn, 1) := by decide +kernel
theorem dX11_act_55 : decode cX11_act 55 = .ok (.bipush 60, 2) := by decide +kernel
theorem dX11_act_57 : decode cX11_act 57 = .ok (.iload_n 1, 1) := by decide +kernel
theorem dX11_act_58 : decode cX11_act 58 = .ok (.imul, 1) := by decide +kernel
theorem dX11_act_59 : decode cX11_act 59 = .ok (.aload_n 0, 1) := by decide +kernel
theorem dX11_act_60 : decode cX11_act 60 = .ok (.getfield 20, 3) := by decide +kernel
theorem dX11_act_63 : decode cX11_act 63 = .ok (.iload_n 1, 1) := by decide +kernel
theorem dX11_act_64 : decode cX11_act 64 = .ok (.iaload, 1) := by decide +kernel
theorem dX11_act_65 : decode cX11_act 65 = .ok (.iadd, 1) := by decide +kernel
theorem dX11_act_66 : decode cX11_act 66 = .ok (.istore 5, 2) := by decide +kernel
theorem dX11_act_68 : decode cX11_act 68 = .ok (.aload_n 0, 1) := by decide +kernel
theorem dX11_act_69 : decode cX11_act 69 = .ok (.getfield 26, 3) := by decide +kernel
theorem dX11_act_72 : decode cX11_act 72 = .ok (.iload 5, 2) := by decide +kernel
theorem dX11_act_74 : decode cX11_act 74 = .ok (.iload_n 2, 1) := by decide +kernel
theorem dX11_act_75 : decode cX11_act 75 = .ok (.iastore, 1) := by decide +kernel
theorem dX11_act_76 : decode cX11_act 76 = .ok (.aload_n 0, 1) := by decide +kernel
theorem dX11_act_77 : decode cX11_act 77 = .ok (.getfield 29, 3) := by decide +kernel
theorem dX11_act_80 : decode cX11_act 80 = .ok (.iload 5, 2) := by decide +kernel
theorem dX11_act_82 : decode cX11_act 82 = .ok (.iload_n 3, 1) := by decide +kernel
theorem dX11_act_83 : decode cX11_act 83 = .ok (.iastore, 1) := by decide +kernel
theorem dX11_act_84 : decode cX11_act 84 = .ok (.aload_n 0, 1) := by decide +kernel
theorem dX11_act_85 : decode cX11_act 85 = .ok (.getfield 32, 3) := by decide +kernel
theorem dX11_act_88 : decode cX11_act 88 = .ok (.iload 5, 2) := by decide +kernel
theorem dX11_act_90 : decode cX11_act 90 = .ok (.iload_n 2, 1) := by decide +kernel
theorem dX11_act_91 : decode cX11_act 91 = .ok (.ifCond .ne 8, 3) := by decide +kernel
theorem dX11_act_94 : decode cX11_act 94 = .ok (.iload 4, 2) := by decide +kernel
theorem dX11_act_96 : decode cX11_act 96 = .ok (.goto 4, 3) := by decide +kernel
theorem dX11_act_99 : decode cX11_act 99 = .ok (.iconst (-1), 1) := by decide +kernel
theorem dX11_act_100 : decode cX11_act 100 = .ok (.iastore, 1) := by decide +kernel
theorem dX11_act_101 : decode cX11_act 101 = .ok (.aload_n 0, 1) := by decide +kernel
theorem dX11_act_102 : decode cX11_act 102 = .ok (.getfield 23, 3) := by decide +kernel
theorem dX11_act_105 : decode cX11_act 105 = .ok (.iload_n 1, 1) := by decide +kernel
theorem dX11_act_106 : decode cX11_act 106 = .ok (.aload_n 0, 1) := by decide +kernel
theorem dX11_act_107 : decode cX11_act 107 = .ok (.getfield 23, 3) := by decide +kernel
theorem dX11_act_110 : decode cX11_act 110 = .ok (.iload_n 1, 1) := by decide +kernel
theorem dX11_act_111 : decode cX11_act 111 = .ok (.iaload, 1) := by decide +kernel
theorem dX11_act_112 : decode cX11_act 112 = .ok (.iload_n 3, 1) := by decide +kernel
theorem dX11_act_113 : decode cX11_act 113 = .ok (.iadd, 1) := by decide +kernel
theorem dX11_act_114 : decode cX11_act 114 = .ok (.iastore, 1) := by decide +kernel
theorem dX11_act_115 : decode cX11_act 115 = .ok (.aload_n 0, 1) := by decide +kernel
theorem dX11_act_116 : decode cX11_act 116 = .ok (.getfield 20, 3) := by decide +kernel
theorem dX11_act_119 : decode cX11_act 119 = .ok (.iload_n 1, 1) := by decide +kernel
theorem dX11_act_120 : decode cX11_act 120 = .ok (.aload_n 0, 1) := by decide +kernel
theorem dX11_act_121 : decode cX11_act 121 = .ok (.getfield 20, 3) := by decide +kernel
theorem dX11_act_124 : decode cX11_act 124 = .ok (.iload_n 1, 1) := by decide +kernel
theorem dX11_act_125 : decode cX11_act 125 = .ok (.iaload, 1) := by decide +kernel
theorem dX11_act_126 : decode cX11_act 126 = .ok (.iconst 1, 1) := by decide +kernel
theorem dX11_act_127 : decode cX11_act 127 = .ok (.iadd, 1) := by decide +kernel
theorem dX11_act_128 : decode cX11_act 128 = .ok (.iastore, 1) := by decide +kernel
theorem dX11_act_129 : decode cX11_act 129 = .ok (.aload_n 0, 1) := by decide +kernel
theorem dX11_act_130 : decode cX11_act 130 = .ok (.getfield 20, 3) := by decide +kernel
theorem dX11_act_133 : decode cX11_act 133 = .ok (.iload_n 1, 1) := by decide +kernel
theorem dX11_act_134 : decode cX11_act 134 = .ok (.iaload, 1) := by decide +kernel
theorem dX11_act_135 : decode cX11_act 135 = .ok (.iconst 1, 1) := by decide +kernel
theorem dX11_act_136 : decode cX11_act 136 = .ok (.isub, 1) := by decide +kernel
theorem dX11_act_137 : decode cX11_act 137 = .ok (.ireturn, 1) := by decide +kernel
theorem dX11_put_0 : decode cX11_put 0 = .ok (.iload_n 1, 1) := by decide +kernel
theorem dX11_put_1 : decode cX11_put 1 = .ok (.invokestatic 110, 3) := by decide +kernel
theorem dX11_put_4 : decode cX11_put 4 = .ok (.ifCond .eq 26, 3) := by decide +kernel
theorem dX11_put_7 : decode cX11_put 7 = .ok (.iload_n 2, 1) := by decide +kernel
theorem dX11_put_8 : decode cX11_put 8 = .ok (.ifCond .lt 22, 3) := by decide +kernel
theorem dX11_put_11 : decode cX11_put 11 = .ok (.iload_n 2, 1) := by decide +kernel
theorem dX11_put_12 : decode cX11_put 12 = .ok (.aload_n 0, 1) := by decide +kernel
theorem dX11_put_13 : decode cX11_put 13 = .ok (.getfield 20, 3) := by decide +kernel
theorem dX11_put_16 : decode cX11_put 16 = .ok (.iload_n 1, 1) := by decide +kernel
theorem dX11_put_17 : decode cX11_put 17 = .ok (.iaload, 1) := by decide +kernel
theorem dX11_put_18 : decode cX11_put 18 = .ok (.if_icmp .ge 12, 3) := by decide +kernel
theorem dX11_put_21 : decode cX11_put 21 = .ok (.iload_n 3, 1) := by decide +kernel
theorem dX11_put_22 : decode cX11_put 22 = .ok (.iload 4, 2) := by decide +kernel
theorem dX11_put_24 : decode cX11_put 24 = .ok (.invokestatic 114, 3) := by decide +kernel
theorem dX11_put_27 : decode cX11_put 27 = .ok (.ifCond .ne 5, 3) := by decide +kernel
theorem dX11_put_30 : decode cX11_put 30 = .ok (.iconst 0, 1) := by decide +kernel
theorem dX11_put_31 : decode cX11_put 31 = .ok (.ireturn, 1) := by decide +kernel
theorem dX11_put_32 : decode cX11_put 32 = .ok (.aload_n 0, 1) := by decide +kernel
theorem dX11_put_33 : decode cX11_put 33 = .ok (.getfield 26, 3) := by decide +kernel
theorem dX11_put_36 : decode cX11_put 36 = .ok (.bipush 60, 2) := by decide +kernel
theorem dX11_put_38 : decode cX11_put 38 = .ok (.iload_n 1, 1) := by decide +kernel
theorem dX11_put_39 : decode cX11_put 39 = .ok (.imul, 1) := by decide +kernel
theorem dX11_put_40 : decode cX11_put 40 = .ok (.iload_n 2, 1) := by decide +kernel
theorem dX11_put_41 : decode cX11_put 41 = .ok (.iadd, 1) := by decide +kernel
theorem dX11_put_42 : decode cX11_put 42 = .ok (.iload_n 3, 1) := by decide +kernel
theorem dX11_put_43 : decode cX11_put 43 = .ok (.iastore, 1) := by decide +kernel
theorem dX11_put_44 : decode cX11_put 44 = .ok (.aload_n 0, 1) := by decide +kernel
theorem dX11_put_45 : decode cX11_put 45 = .ok (.getfield 32, 3) := by decide +kernel
theorem dX11_put_48 : decode cX11_put 48 = .ok (.bipush 60, 2) := by decide +kernel
theorem dX11_put_50 : decode cX11_put 50 = .ok (.iload_n 1, 1) := by decide +kernel
theorem dX11_put_51 : decode cX11_put 51 = .ok (.imul, 1) := by decide +kernel
theorem dX11_put_52 : decode cX11_put 52 = .ok (.iload_n 2, 1) := by decide +kernel
theorem dX11_put_53 : decode cX11_put 53 = .ok (.iadd, 1) := by decide +kernel
theorem dX11_put_54 : decode cX11_put 54 = .ok (.iload_n 3, 1) := by decide +kernel
theorem dX11_put_55 : decode cX11_put 55 = .ok (.ifCond .ne 8, 3) := by decide +kernel
theorem dX11_put_58 : decode cX11_put 58 = .ok (.iload 4, 2) := by decide +kernel
theorem dX11_put_60 : decode cX11_put 60 = .ok (.goto 4, 3) := by decide +kernel
theorem dX11_put_63 : decode cX11_put 63 = .ok (.iconst (-1), 1) := by decide +kernel
theorem dX11_put_64 : decode cX11_put 64 = .ok (.iastore, 1) := by decide +kernel
theorem dX11_put_65 : decode cX11_put 65 = .ok (.iconst 1, 1) := by decide +kernel
theorem dX11_put_66 : decode cX11_put 66 = .ok (.ireturn, 1) := by decide +kernel
theorem dX11_trip_0 : decode cX11_trip 0 = .ok (.iload_n 1, 1) := by decide +kernel
theorem dX11_trip_1 : decode cX11_trip 1 = .ok (.ifCond .lt 35, 3) := by decide +kernel
theorem dX11_trip_4 : decode cX11_trip 4 = .ok (.iload_n 1, 1) := by decide +kernel
theorem dX11_trip_5 : decode cX11_trip 5 = .ok (.iconst 1, 1) := by decide +kernel
theorem dX11_trip_6 : decode cX11_trip 6 = .ok (.if_icmp .gt 30, 3) := by decide +kernel
theorem dX11_trip_9 : decode cX11_trip 9 = .ok (.iload_n 2, 1) := by decide +kernel
theorem dX11_trip_10 : decode cX11_trip 10 = .ok (.ifCond .lt 26, 3) := by decide +kernel
theorem dX11_trip_13 : decode cX11_trip 13 = .ok (.iload_n 3, 1) := by decide +kernel
theorem dX11_trip_14 : decode cX11_trip 14 = .ok (.sipush 20160, 3) := by decide +kernel
theorem dX11_trip_17 : decode cX11_trip 17 = .ok (.if_icmp .gt 19, 3) := by decide +kernel
theorem dX11_trip_20 : decode cX11_trip 20 = .ok (.iload_n 2, 1) := by decide +kernel
theorem dX11_trip_21 : decode cX11_trip 21 = .ok (.iload_n 3, 1) := by decide +kernel
theorem dX11_trip_22 : decode cX11_trip 22 = .ok (.if_icmp .ge 14, 3) := by decide +kernel
theorem dX11_trip_25 : decode cX11_trip 25 = .ok (.aload_n 0, 1) := by decide +kernel
theorem dX11_trip_26 : decode cX11_trip 26 = .ok (.getfield 35, 3) := by decide +kernel
theorem dX11_trip_29 : decode cX11_trip 29 = .ok (.iload_n 1, 1) := by decide +kernel
theorem dX11_trip_30 : decode cX11_trip 30 = .ok (.iaload, 1) := by decide +kernel
theorem dX11_trip_31 : decode cX11_trip 31 = .ok (.bipush 20, 2) := by decide +kernel
theorem dX11_trip_33 : decode cX11_trip 33 = .ok (.if_icmp .ne 5, 3) := by decide +kernel
theorem dX11_trip_36 : decode cX11_trip 36 = .ok (.iconst 0, 1) := by decide +kernel
theorem dX11_trip_37 : decode cX11_trip 37 = .ok (.ireturn, 1) := by decide +kernel
theorem dX11_trip_38 : decode cX11_trip 38 = .ok (.bipush 20, 2) := by decide +kernel
theorem dX11_trip_40 : decode cX11_trip 40 = .ok (.iload_n 1, 1) := by decide +kernel
theorem dX11_trip_41 : decode cX11_trip 41 = .ok (.imul, 1) := by decide +kernel
theorem dX11_trip_42 : decode cX11_trip 42 = .ok (.istore 4, 2) := by decide +kernel
theorem dX11_trip_44 : decode cX11_trip 44 = .ok (.iload 4, 2) := by decide +kernel
theorem dX11_trip_46 : decode cX11_trip 46 = .ok (.bipush 20, 2) := by decide +kernel
theorem dX11_trip_48 : decode cX11_trip 48 = .ok (.iload_n 1, 1) := by decide +kernel
theorem dX11_trip_49 : decode cX11_trip 49 = .ok (.imul, 1) := by decide +kernel
theorem dX11_trip_50 : decode cX11_trip 50 = .ok (.aload_n 0, 1) := by decide +kernel
theorem dX11_trip_51 : decode cX11_trip 51 = .ok (.getfield 35, 3) := by decide +kernel
theorem dX11_trip_54 : decode cX11_trip 54 = .ok (.iload_n 1, 1) := by decide +kernel
theorem dX11_trip_55 : decode cX11_trip 55 = .ok (.iaload, 1) := by decide +kernel
theorem dX11_trip_56 : decode cX11_trip 56 = .ok (.iadd, 1) := by decide +kernel
theorem dX11_trip_57 : decode cX11_trip 57 = .ok (.if_icmp .ge 33, 3) := by decide +kernel
theorem dX11_trip_60 : decode cX11_trip 60 = .ok (.iload_n 2, 1) := by decide +kernel
theorem dX11_trip_61 : decode cX11_trip 61 = .ok (.aload_n 0, 1) := by decide +kernel
theorem dX11_trip_62 : decode cX11_trip 62 = .ok (.getfield 41, 3) := by decide +kernel
theorem dX11_trip_65 : decode cX11_trip 65 = .ok (.iload 4, 2) := by decide +kernel
theorem dX11_trip_67 : decode cX11_trip 67 = .ok (.iaload, 1) := by decide +kernel
theorem dX11_trip_68 : decode cX11_trip 68 = .ok (.if_icmp .ge 16, 3) := by decide +kernel
theorem dX11_trip_71 : decode cX11_trip 71 = .ok (.aload_n 0, 1) := by decide +kernel
theorem dX11_trip_72 : decode cX11_trip 72 = .ok (.getfield 38, 3) := by decide +kernel
theorem dX11_trip_75 : decode cX11_trip 75 = .ok (.iload 4, 2) := by decide +kernel
theorem dX11_trip_77 : decode cX11_trip 77 = .ok (.iaload, 1) := by decide +kernel
theorem dX11_trip_78 : decode cX11_trip 78 = .ok (.iload_n 3, 1) := by decide +kernel
theorem dX11_trip_79 : decode cX11_trip 79 = .ok (.if_icmp .ge 5, 3) := by decide +kernel
theorem dX11_trip_82 : decode cX11_trip 82 = .ok (.iconst 0, 1) := by decide +kernel
theorem dX11_trip_83 : decode cX11_trip 83 = .ok (.ireturn, 1) := by decide +kernel
theorem dX11_trip_84 : decode cX11_trip 84 = .ok (.iinc 4 1, 3) := by decide +kernel
theorem dX11_trip_87 : decode cX11_trip 87 = .ok (.goto (-43), 3) := by decide +kernel
theorem dX11_trip_90 : decode cX11_trip 90 = .ok (.aload_n 0, 1) := by decide +kernel
theorem dX11_trip_91 : decode cX11_trip 91 = .ok (.getfield 38, 3) := by decide +kernel
theorem dX11_trip_94 : decode cX11_trip 94 = .ok (.bipush 20, 2) := by decide +kernel
theorem dX11_trip_96 : decode cX11_trip 96 = .ok (.iload_n 1, 1) := by decide +kernel
theorem dX11_trip_97 : decode cX11_trip 97 = .ok (.imul, 1) := by decide +kernel
theorem dX11_trip_98 : decode cX11_trip 98 = .ok (.aload_n 0, 1) := by decide +kernel
theorem dX11_trip_99 : decode cX11_trip 99 = .ok (.getfield 35, 3) := by decide +kernel
theorem dX11_trip_102 : decode cX11_trip 102 = .ok (.iload_n 1, 1) := by decide +kernel
theorem dX11_trip_103 : decode cX11_trip 103 = .ok (.iaload, 1) := by decide +kernel
theorem dX11_trip_104 : decode cX11_trip 104 = .ok (.iadd, 1) := by decide +kernel
theorem dX11_trip_105 : decode cX11_trip 105 = .ok (.iload_n 2, 1) := by decide +kernel
theorem dX11_trip_106 : decode cX11_trip 106 = .ok (.iastore, 1) := by decide +kernel
theorem dX11_trip_107 : decode cX11_trip 107 = .ok (.aload_n 0, 1) := by decide +kernel
theorem dX11_trip_108 : decode cX11_trip 108 = .ok (.getfield 41, 3) := by decide +kernel
theorem dX11_trip_111 : decode cX11_trip 111 = .ok (.bipush 20, 2) := by decide +kernel
theorem dX11_trip_113 : decode cX11_trip 113 = .ok (.iload_n 1, 1) := by decide +kernel
theorem dX11_trip_114 : decode cX11_trip 114 = .ok (.imul, 1) := by decide +kernel
theorem dX11_trip_115 : decode cX11_trip 115 = .ok (.aload_n 0, 1) := by decide +kernel
theorem dX11_trip_116 : decode cX11_trip 116 = .ok (.getfield 35, 3) := by decide +kernel
theorem dX11_trip_119 : decode cX11_trip 119 = .ok (.iload_n 1, 1) := by decide +kernel
theorem dX11_trip_120 : decode cX11_trip 120 = .ok (.iaload, 1) := by decide +kernel
theorem dX11_trip_121 : decode cX11_trip 121 = .ok (.iadd, 1) := by decide +kernel
theorem dX11_trip_122 : decode cX11_trip 122 = .ok (.iload_n 3, 1) := by decide +kernel
theorem dX11_trip_123 : decode cX11_trip 123 = .ok (.iastore, 1) := by decide +kernel
theorem dX11_trip_124 : decode cX11_trip 124 = .ok (.aload_n 0, 1) := by decide +kernel
theorem dX11_trip_125 : decode cX11_trip 125 = .ok (.getfield 35, 3) := by decide +kernel
theorem dX11_trip_128 : decode cX11_trip 128 = .ok (.iload_n 1, 1) := by decide +kernel
theorem dX11_trip_129 : decode cX11_trip 129 = .ok (.aload_n 0, 1) := by decide +kernel
theorem dX11_trip_130 : decode cX11_trip 130 = .ok (.getfield 35, 3) := by decide +kernel
theorem dX11_trip_133 : decode cX11_trip 133 = .ok (.iload_n 1, 1) := by decide +kernel
theorem dX11_trip_134 : decode cX11_trip 134 = .ok (.iaload, 1) := by decide +kernel
theorem dX11_trip_135 : decode cX11_trip 135 = .ok (.iconst 1, 1) := by decide +kernel
theorem dX11_trip_136 : decode cX11_trip 136 = .ok (.iadd, 1) := by decide +kernel
theorem dX11_trip_137 : decode cX11_trip 137 = .ok (.iastore, 1) := by decide +kernel
theorem dX11_trip_138 : decode cX11_trip 138 = .ok (.iconst 1, 1) := by decide +kernel
theorem dX11_trip_139 : decode cX11_trip 139 = .ok (.ireturn, 1) := by decide +kernel
theorem dX11_isRest_0 : decode cX11_isRest 0 = .ok (.iload_n 2, 1) := by decide +kernel
theorem dX11_isRest_1 : decode cX11_isRest 1 = .ok (.ifCond .lt 51, 3) := by decide +kernel
theorem dX11_isRest_4 : decode cX11_isRest 4 = .ok (.iload_n 2, 1) := by decide +kernel
theorem dX11_isRest_5 : decode cX11_isRest 5 = .ok (.aload_n 0, 1) := by decide +kernel
theorem dX11_isRest_6 : decode cX11_isRest 6 = .ok (.getfield 20, 3) := by decide +kernel
theorem dX11_isRest_9 : decode cX11_isRest 9 = .ok (.iload_n 1, 1) := by decide +kernel
theorem dX11_isRest_10 : decode cX11_isRest 10 = .ok (.iaload, 1) := by decide +kernel
theorem dX11_isRest_11 : decode cX11_isRest 11 = .ok (.if_icmp .ge 41, 3) := by decide +kernel
theorem dX11_isRest_14 : decode cX11_isRest 14 = .ok (.aload_n 0, 1) := by decide +kernel
theorem dX11_isRest_15 : decode cX11_isRest 15 = .ok (.getfield 26, 3) := by decide +kernel
theorem dX11_isRest_18 : decode cX11_isRest 18 = .ok (.bipush 60, 2) := by decide +kernel
theorem dX11_isRest_20 : decode cX11_isRest 20 = .ok (.iload_n 1, 1) := by decide +kernel
theorem dX11_isRest_21 : decode cX11_isRest 21 = .ok (.imul, 1) := by decide +kernel
theorem dX11_isRest_22 : decode cX11_isRest 22 = .ok (.iload_n 2, 1) := by decide +kernel
theorem dX11_isRest_23 : decode cX11_isRest 23 = .ok (.iadd, 1) := by decide +kernel
theorem dX11_isRest_24 : decode cX11_isRest 24 = .ok (.iaload, 1) := by decide +kernel
theorem dX11_isRest_25 : decode cX11_isRest 25 = .ok (.iconst 2, 1) := by decide +kernel
theorem dX11_isRest_26 : decode cX11_isRest 26 = .ok (.if_icmp .eq 22, 3) := by decide +kernel
theorem dX11_isRest_29 : decode cX11_isRest 29 = .ok (.aload_n 0, 1) := by decide +kernel
theorem dX11_isRest_30 : decode cX11_isRest 30 = .ok (.getfield 26, 3) := by decide +kernel
theorem dX11_isRest_33 : decode cX11_isRest 33 = .ok (.bipush 60, 2) := by decide +kernel
theorem dX11_isRest_35 : decode cX11_isRest 35 = .ok (.iload_n 1, 1) := by decide +kernel
theorem dX11_isRest_36 : decode cX11_isRest 36 = .ok (.imul, 1) := by decide +kernel
theorem dX11_isRest_37 : decode cX11_isRest 37 = .ok (.iload_n 2, 1) := by decide +kernel
theorem dX11_isRest_38 : decode cX11_isRest 38 = .ok (.iadd, 1) := by decide +kernel
theorem dX11_isRest_39 : decode cX11_isRest 39 = .ok (.iaload, 1) := by decide +kernel
theorem dX11_isRest_40 : decode cX11_isRest 40 = .ok (.iconst 4, 1) := by decide +kernel
theorem dX11_isRest_41 : decode cX11_isRest 41 = .ok (.if_icmp .ne 11, 3) := by decide +kernel
theorem dX11_isRest_44 : decode cX11_isRest 44 = .ok (.iload_n 3, 1) := by decide +kernel
theorem dX11_isRest_45 : decode cX11_isRest 45 = .ok (.ifCond .ne 7, 3) := by decide +kernel
theorem dX11_isRest_48 : decode cX11_isRest 48 = .ok (.iconst 1, 1) := by decide +kernel
theorem dX11_isRest_49 : decode cX11_isRest 49 = .ok (.goto 4, 3) := by decide +kernel
theorem dX11_isRest_52 : decode cX11_isRest 52 = .ok (.iconst 0, 1) := by decide +kernel
theorem dX11_isRest_53 : decode cX11_isRest 53 = .ok (.ireturn, 1) := by decide +kernel
theorem dX11_readAs_0 : decode cX11_readAs 0 = .ok (.aload_n 0, 1) := by decide +kernel
theorem dX11_readAs_1 : decode cX11_readAs 1 = .ok (.getfield 26, 3) := by decide +kernel
theorem dX11_readAs_4 : decode cX11_readAs 4 = .ok (.bipush 60, 2) := by decide +kernel
theorem dX11_readAs_6 : decode cX11_readAs 6 = .ok (.iload_n 1, 1) := by decide +kernel
theorem dX11_readAs_7 : decode cX11_readAs 7 = .ok (.imul, 1) := by decide +kernel
theorem dX11_readAs_8 : decode cX11_readAs 8 = .ok (.iload_n 2, 1) := by decide +kernel
theorem dX11_readAs_9 : decode cX11_readAs 9 = .ok (.iadd, 1) := by decide +kernel
theorem dX11_readAs_10 : decode cX11_readAs 10 = .ok (.iaload, 1) := by decide +kernel
theorem dX11_readAs_11 : decode cX11_readAs 11 = .ok (.istore 4, 2) := by decide +kernel
theorem dX11_readAs_13 : decode cX11_readAs 13 = .ok (.iload 4, 2) := by decide +kernel
theorem dX11_readAs_15 : decode cX11_readAs 15 = .ok (.iconst 4, 1) := by decide +kernel
theorem dX11_readAs_16 : decode cX11_readAs 16 = .ok (.if_icmp .ne 13, 3) := by decide +kernel
theorem dX11_readAs_19 : decode cX11_readAs 19 = .ok (.iload_n 3, 1) := by decide +kernel
theorem dX11_readAs_20 : decode cX11_readAs 20 = .ok (.ifCond .eq 7, 3) := by decide +kernel
theorem dX11_readAs_23 : decode cX11_readAs 23 = .ok (.iconst 0, 1) := by decide +kernel
theorem dX11_readAs_24 : decode cX11_readAs 24 = .ok (.goto 4, 3) := by decide +kernel
theorem dX11_readAs_27 : decode cX11_readAs 27 = .ok (.iconst 2, 1) := by decide +kernel
theorem dX11_readAs_28 : decode cX11_readAs 28 = .ok (.ireturn, 1) := by decide +kernel
theorem dX11_readAs_29 : decode cX11_readAs 29 = .ok (.iload 4, 2) := by decide +kernel
theorem dX11_readAs_31 : decode cX11_readAs 31 = .ok (.iconst 3, 1) := by decide +kernel
theorem dX11_readAs_32 : decode cX11_readAs 32 = .ok (.if_icmp .ne 33, 3) := by decide +kernel
theorem dX11_readAs_35 : decode cX11_readAs 35 = .ok (.aload_n 0, 1) := by decide +kernel
theorem dX11_readAs_36 : decode cX11_readAs 36 = .ok (.iload_n 1, 1) := by decide +kernel
theorem dX11_readAs_37 : decode cX11_readAs 37 = .ok (.iload_n 2, 1) := by decide +kernel
theorem dX11_readAs_38 : decode cX11_readAs 38 = .ok (.iconst 1, 1) := by decide +kernel
theorem dX11_readAs_39 : decode cX11_readAs 39 = .ok (.isub, 1) := by decide +kernel
theorem dX11_readAs_40 : decode cX11_readAs 40 = .ok (.iload_n 3, 1) := by decide +kernel
theorem dX11_readAs_41 : decode cX11_readAs 41 = .ok (.invokevirtual 117, 3) := by decide +kernel
theorem dX11_readAs_44 : decode cX11_readAs 44 = .ok (.ifCond .eq 19, 3) := by decide +kernel
theorem dX11_readAs_47 : decode cX11_readAs 47 = .ok (.aload_n 0, 1) := by decide +kernel
theorem dX11_readAs_48 : decode cX11_readAs 48 = .ok (.iload_n 1, 1) := by decide +kernel
theorem dX11_readAs_49 : decode cX11_readAs 49 = .ok (.iload_n 2, 1) := by decide +kernel
theorem dX11_readAs_50 : decode cX11_readAs 50 = .ok (.iconst 1, 1) := by decide +kernel
theorem dX11_readAs_51 : decode cX11_readAs 51 = .ok (.iadd, 1) := by decide +kernel
theorem dX11_readAs_52 : decode cX11_readAs 52 = .ok (.iload_n 3, 1) := by decide +kernel
theorem dX11_readAs_53 : decode cX11_readAs 53 = .ok (.invokevirtual 117, 3) := by decide +kernel
theorem dX11_readAs_56 : decode cX11_readAs 56 = .ok (.ifCond .eq 7, 3) := by decide +kernel
theorem dX11_readAs_59 : decode cX11_readAs 59 = .ok (.iconst 2, 1) := by decide +kernel
theorem dX11_readAs_60 : decode cX11_readAs 60 = .ok (.goto 4, 3) := by decide +kernel
theorem dX11_readAs_63 : decode cX11_readAs 63 = .ok (.iconst 1, 1) := by decide +kernel
theorem dX11_readAs_64 : decode cX11_readAs 64 = .ok (.ireturn, 1) := by decide +kernel
theorem dX11_readAs_65 : decode cX11_readAs 65 = .ok (.iload 4, 2) := by decide +kernel
theorem dX11_readAs_67 : decode cX11_readAs 67 = .ok (.ireturn, 1) := by decide +kernel
theorem dX11_lays_0 : decode cX11_lays 0 = .ok (.aload_n 0, 1) := by decide +kernel
theorem dX11_lays_1 : decode cX11_lays 1 = .ok (.iconst 0, 1) := by decide +kernel
theorem dX11_lays_2 : decode cX11_lays 2 = .ok (.putfield 121, 3) := by decide +kernel
theorem dX11_lays_5 : decode cX11_lays 5 = .ok (.iconst 0, 1) := by decide +kernel
theorem dX11_lays_6 : decode cX11_lays 6 = .ok (.istore_n 3, 1) := by decide +kernel
theorem dX11_lays_7 : decode cX11_lays 7 = .ok (.iload_n 3, 1) := by decide +kernel
theorem dX11_lays_8 : decode cX11_lays 8 = .ok (.aload_n 0, 1) := by decide +kernel
theorem dX11_lays_9 : decode cX11_lays 9 = .ok (.getfield 20, 3) := by decide +kernel
theorem dX11_lays_12 : decode cX11_lays 12 = .ok (.iload_n 1, 1) := by decide +kernel
theorem dX11_lays_13 : decode cX11_lays 13 = .ok (.iaload, 1) := by decide +kernel
theorem dX11_lays_14 : decode cX11_lays 14 = .ok (.if_icmp .ge 64, 3) := by decide +kernel
theorem dX11_lays_17 : decode cX11_lays 17 = .ok (.aload_n 0, 1) := by decide +kernel
theorem dX11_lays_18 : decode cX11_lays 18 = .ok (.iload_n 1, 1) := by decide +kernel
theorem dX11_lays_19 : decode cX11_lays 19 = .ok (.iload_n 3, 1) := by decide +kernel
theorem dX11_lays_20 : decode cX11_lays 20 = .ok (.iload_n 2, 1) := by decide +kernel
theorem dX11_lays_21 : decode cX11_lays 21 = .ok (.invokevirtual 124, 3) := by decide +kernel
theorem dX11_lays_24 : decode cX11_lays 24 = .ok (.istore 4, 2) := by decide +kernel
theorem dX11_lays_26 : decode cX11_lays 26 = .ok (.iconst 0, 1) := by decide +kernel
theorem dX11_lays_27 : decode cX11_lays 27 = .ok (.istore 5, 2) := by decide +kernel
theorem dX11_lays_29 : decode cX11_lays 29 = .ok (.iload 5, 2) := by decide +kernel
theorem dX11_lays_31 : decode cX11_lays 31 = .ok (.aload_n 0, 1) := by decide +kernel
theorem dX11_lays_32 : decode cX11_lays 32 = .ok (.getfield 29, 3) := by decide +kernel
theorem dX11_lays_35 : decode cX11_lays 35 = .ok (.bipush 60, 2) := by decide +kernel
theorem dX11_lays_37 : decode cX11_lays 37 = .ok (.iload_n 1, 1) := by decide +kernel
theorem dX11_lays_38 : decode cX11_lays 38 = .ok (.imul, 1) := by decide +kernel
theorem dX11_lays_39 : decode cX11_lays 39 = .ok (.iload_n 3, 1) := by decide +kernel
theorem dX11_lays_40 : decode cX11_lays 40 = .ok (.iadd, 1) := by decide +kernel
theorem dX11_lays_41 : decode cX11_lays 41 = .ok (.iaload, 1) := by decide +kernel
theorem dX11_lays_42 : decode cX11_lays 42 = .ok (.if_icmp .ge 30, 3) := by decide +kernel
theorem dX11_lays_45 : decode cX11_lays 45 = .ok (.aload_n 0, 1) := by decide +kernel
theorem dX11_lays_46 : decode cX11_lays 46 = .ok (.getfield 44, 3) := by decide +kernel
theorem dX11_lays_49 : decode cX11_lays 49 = .ok (.aload_n 0, 1) := by decide +kernel
theorem dX11_lays_50 : decode cX11_lays 50 = .ok (.getfield 121, 3) := by decide +kernel
theorem dX11_lays_53 : decode cX11_lays 53 = .ok (.iload 4, 2) := by decide +kernel
theorem dX11_lays_55 : decode cX11_lays 55 = .ok (.iastore, 1) := by decide +kernel
theorem dX11_lays_56 : decode cX11_lays 56 = .ok (.aload_n 0, 1) := by decide +kernel
theorem dX11_lays_57 : decode cX11_lays 57 = .ok (.aload_n 0, 1) := by decide +kernel
theorem dX11_lays_58 : decode cX11_lays 58 = .ok (.getfield 121, 3) := by decide +kernel
theorem dX11_lays_61 : decode cX11_lays 61 = .ok (.iconst 1, 1) := by decide +kernel
theorem dX11_lays_62 : decode cX11_lays 62 = .ok (.iadd, 1) := by decide +kernel
theorem dX11_lays_63 : decode cX11_lays 63 = .ok (.putfield 121, 3) := by decide +kernel
theorem dX11_lays_66 : decode cX11_lays 66 = .ok (.iinc 5 1, 3) := by decide +kernel
theorem dX11_lays_69 : decode cX11_lays 69 = .ok (.goto (-40), 3) := by decide +kernel
theorem dX11_lays_72 : decode cX11_lays 72 = .ok (.iinc 3 1, 3) := by decide +kernel
theorem dX11_lays_75 : decode cX11_lays 75 = .ok (.goto (-68), 3) := by decide +kernel
theorem dX11_lays_78 : decode cX11_lays 78 = .ok (.aload_n 0, 1) := by decide +kernel
theorem dX11_lays_79 : decode cX11_lays 79 = .ok (.getfield 47, 3) := by decide +kernel
theorem dX11_lays_82 : decode cX11_lays 82 = .ok (.iconst 0, 1) := by decide +kernel
theorem dX11_lays_83 : decode cX11_lays 83 = .ok (.iconst 0, 1) := by decide +kernel
theorem dX11_lays_84 : decode cX11_lays 84 = .ok (.iastore, 1) := by decide +kernel
theorem dX11_lays_85 : decode cX11_lays 85 = .ok (.aload_n 0, 1) := by decide +kernel
theorem dX11_lays_86 : decode cX11_lays 86 = .ok (.iconst 0, 1) := by decide +kernel
theorem dX11_lays_87 : decode cX11_lays 87 = .ok (.putfield 128, 3) := by decide +kernel
theorem dX11_lays_90 : decode cX11_lays 90 = .ok (.iconst 0, 1) := by decide +kernel
theorem dX11_lays_91 : decode cX11_lays 91 = .ok (.istore_n 3, 1) := by decide +kernel
theorem dX11_lays_92 : decode cX11_lays 92 = .ok (.iload_n 3, 1) := by decide +kernel
theorem dX11_lays_93 : decode cX11_lays 93 = .ok (.aload_n 0, 1) := by decide +kernel
theorem dX11_lays_94 : decode cX11_lays 94 = .ok (.getfield 121, 3) := by decide +kernel
theorem dX11_lays_97 : decode cX11_lays 97 = .ok (.if_icmp .ge 101, 3) := by decide +kernel
theorem dX11_lays_100 : decode cX11_lays 100 = .ok (.aload_n 0, 1) := by decide +kernel
theorem dX11_lays_101 : decode cX11_lays 101 = .ok (.getfield 47, 3) := by decide +kernel
theorem dX11_lays_104 : decode cX11_lays 104 = .ok (.iload_n 3, 1) := by decide +kernel
theorem dX11_lays_105 : decode cX11_lays 105 = .ok (.iconst 1, 1) := by decide +kernel
theorem dX11_lays_106 : decode cX11_lays 106 = .ok (.iadd, 1) := by decide +kernel
theorem dX11_lays_107 : decode cX11_lays 107 = .ok (.aload_n 0, 1) := by decide +kernel
theorem dX11_lays_108 : decode cX11_lays 108 = .ok (.getfield 47, 3) := by decide +kernel
theorem dX11_lays_111 : decode cX11_lays 111 = .ok (.iload_n 3, 1) := by decide +kernel
theorem dX11_lays_112 : decode cX11_lays 112 = .ok (.iaload, 1) := by decide +kernel
theorem dX11_lays_113 : decode cX11_lays 113 = .ok (.aload_n 0, 1) := by decide +kernel
theorem dX11_lays_114 : decode cX11_lays 114 = .ok (.getfield 44, 3) := by decide +kernel
theorem dX11_lays_117 : decode cX11_lays 117 = .ok (.iload_n 3, 1) := by decide +kernel
theorem dX11_lays_118 : decode cX11_lays 118 = .ok (.iaload, 1) := by decide +kernel
theorem dX11_lays_119 : decode cX11_lays 119 = .ok (.ifCond .ne 7, 3) := by decide +kernel
theorem dX11_lays_122 : decode cX11_lays 122 = .ok (.iconst 1, 1) := by decide +kernel
theorem dX11_lays_123 : decode cX11_lays 123 = .ok (.goto 4, 3) := by decide +kernel
theorem dX11_lays_126 : decode cX11_lays 126 = .ok (.iconst 0, 1) := by decide +kernel
theorem dX11_lays_127 : decode cX11_lays 127 = .ok (.iadd, 1) := by decide +kernel
theorem dX11_lays_128 : decode cX11_lays 128 = .ok (.iastore, 1) := by decide +kernel
theorem dX11_lays_129 : decode cX11_lays 129 = .ok (.aload_n 0, 1) := by decide +kernel
theorem dX11_lays_130 : decode cX11_lays 130 = .ok (.getfield 44, 3) := by decide +kernel
theorem dX11_lays_133 : decode cX11_lays 133 = .ok (.iload_n 3, 1) := by decide +kernel
theorem dX11_lays_134 : decode cX11_lays 134 = .ok (.iaload, 1) := by decide +kernel
theorem dX11_lays_135 : decode cX11_lays 135 = .ok (.iconst 2, 1) := by decide +kernel
theorem dX11_lays_136 : decode cX11_lays 136 = .ok (.if_icmp .eq 6, 3) := by decide +kernel
theorem dX11_lays_139 : decode cX11_lays 139 = .ok (.goto 53, 3) := by decide +kernel
theorem dX11_lays_142 : decode cX11_lays 142 = .ok (.iload_n 3, 1) := by decide +kernel
theorem dX11_lays_143 : decode cX11_lays 143 = .ok (.ifCond .eq 15, 3) := by decide +kernel
theorem dX11_lays_146 : decode cX11_lays 146 = .ok (.aload_n 0, 1) := by decide +kernel
theorem dX11_lays_147 : decode cX11_lays 147 = .ok (.getfield 44, 3) := by decide +kernel
theorem dX11_lays_150 : decode cX11_lays 150 = .ok (.iload_n 3, 1) := by decide +kernel
theorem dX11_lays_151 : decode cX11_lays 151 = .ok (.iconst 1, 1) := by decide +kernel
theorem dX11_lays_152 : decode cX11_lays 152 = .ok (.isub, 1) := by decide +kernel
theorem dX11_lays_153 : decode cX11_lays 153 = .ok (.iaload, 1) := by decide +kernel
theorem dX11_lays_154 : decode cX11_lays 154 = .ok (.iconst 2, 1) := by decide +kernel
theorem dX11_lays_155 : decode cX11_lays 155 = .ok (.if_icmp .eq 23, 3) := by decide +kernel
theorem dX11_lays_158 : decode cX11_lays 158 = .ok (.aload_n 0, 1) := by decide +kernel
theorem dX11_lays_159 : decode cX11_lays 159 = .ok (.getfield 50, 3) := by decide +kernel
theorem dX11_lays_162 : decode cX11_lays 162 = .ok (.aload_n 0, 1) := by decide +kernel
theorem dX11_lays_163 : decode cX11_lays 163 = .ok (.getfield 128, 3) := by decide +kernel
theorem dX11_lays_166 : decode cX11_lays 166 = .ok (.iload_n 3, 1) := by decide +kernel
theorem dX11_lays_167 : decode cX11_lays 167 = .ok (.iastore, 1) := by decide +kernel
theorem dX11_lays_168 : decode cX11_lays 168 = .ok (.aload_n 0, 1) := by decide +kernel
theorem dX11_lays_169 : decode cX11_lays 169 = .ok (.aload_n 0, 1) := by decide +kernel
theorem dX11_lays_170 : decode cX11_lays 170 = .ok (.getfield 128, 3) := by decide +kernel
theorem dX11_lays_173 : decode cX11_lays 173 = .ok (.iconst 1, 1) := by decide +kernel
theorem dX11_lays_174 : decode cX11_lays 174 = .ok (.iadd, 1) := by decide +kernel
theorem dX11_lays_175 : decode cX11_lays 175 = .ok (.putfield 128, 3) := by decide +kernel
theorem dX11_lays_178 : decode cX11_lays 178 = .ok (.aload_n 0, 1) := by decide +kernel
theorem dX11_lays_179 : decode cX11_lays 179 = .ok (.getfield 53, 3) := by decide +kernel
theorem dX11_lays_182 : decode cX11_lays 182 = .ok (.aload_n 0, 1) := by decide +kernel
theorem dX11_lays_183 : decode cX11_lays 183 = .ok (.getfield 128, 3) := by decide +kernel
theorem dX11_lays_186 : decode cX11_lays 186 = .ok (.iconst 1, 1) := by decide +kernel
theorem dX11_lays_187 : decode cX11_lays 187 = .ok (.isub, 1) := by decide +kernel
theorem dX11_lays_188 : decode cX11_lays 188 = .ok (.iload_n 3, 1) := by decide +kernel
theorem dX11_lays_189 : decode cX11_lays 189 = .ok (.iconst 1, 1) := by decide +kernel
theorem dX11_lays_190 : decode cX11_lays 190 = .ok (.iadd, 1) := by decide +kernel
theorem dX11_lays_191 : decode cX11_lays 191 = .ok (.iastore, 1) := by decide +kernel
theorem dX11_lays_192 : decode cX11_lays 192 = .ok (.iinc 3 1, 3) := by decide +kernel
theorem dX11_lays_195 : decode cX11_lays 195 = .ok (.goto (-103), 3) := by decide +kernel
theorem dX11_lays_198 : decode cX11_lays 198 = .ok (.return_, 1) := by decide +kernel
theorem dX11_runLength_0 : decode cX11_runLength 0 = .ok (.aload_n 0, 1) := by decide +kernel
theorem dX11_runLength_1 : decode cX11_runLength 1 = .ok (.getfield 53, 3) := by decide +kernel
theorem dX11_runLength_4 : decode cX11_runLength 4 = .ok (.iload_n 1, 1) := by decide +kernel
theorem dX11_runLength_5 : decode cX11_runLength 5 = .ok (.iaload, 1) := by decide +kernel
theorem dX11_runLength_6 : decode cX11_runLength 6 = .ok (.aload_n 0, 1) := by decide +kernel
theorem dX11_runLength_7 : decode cX11_runLength 7 = .ok (.getfield 50, 3) := by decide +kernel
theorem dX11_runLength_10 : decode cX11_runLength 10 = .ok (.iload_n 1, 1) := by decide +kernel
theorem dX11_runLength_11 : decode cX11_runLength 11 = .ok (.iaload, 1) := by decide +kernel
theorem dX11_runLength_12 : decode cX11_runLength 12 = .ok (.isub, 1) := by decide +kernel
theorem dX11_runLength_13 : decode cX11_runLength 13 = .ok (.ireturn, 1) := by decide +kernel
theorem dX11_tells_0 : decode cX11_tells 0 = .ok (.iload_n 3, 1) := by decide +kernel
theorem dX11_tells_1 : decode cX11_tells 1 = .ok (.ifCond .ne 4, 3) := by decide +kernel
theorem dX11_tells_4 : decode cX11_tells 4 = .ok (.return_, 1) := by decide +kernel
theorem dX11_tells_5 : decode cX11_tells 5 = .ok (.aload_n 0, 1) := by decide +kernel
theorem dX11_tells_6 : decode cX11_tells 6 = .ok (.getfield 131, 3) := by decide +kernel
theorem dX11_tells_9 : decode cX11_tells 9 = .ok (.istore 4, 2) := by decide +kernel
theorem dX11_tells_11 : decode cX11_tells 11 = .ok (.iload 4, 2) := by decide +kernel
theorem dX11_tells_13 : decode cX11_tells 13 = .ok (.ifCond .le 99, 3) := by decide +kernel
theorem dX11_tells_16 : decode cX11_tells 16 = .ok (.aload_n 0, 1) := by decide +kernel
theorem dX11_tells_17 : decode cX11_tells 17 = .ok (.getfield 56, 3) := by decide +kernel
theorem dX11_tells_20 : decode cX11_tells 20 = .ok (.iload 4, 2) := by decide +kernel
theorem dX11_tells_22 : decode cX11_tells 22 = .ok (.iconst 1, 1) := by decide +kernel
theorem dX11_tells_23 : decode cX11_tells 23 = .ok (.isub, 1) := by decide +kernel
theorem dX11_tells_24 : decode cX11_tells 24 = .ok (.iaload, 1) := by decide +kernel
theorem dX11_tells_25 : decode cX11_tells 25 = .ok (.iload_n 1, 1) := by decide +kernel
theorem dX11_tells_26 : decode cX11_tells 26 = .ok (.if_icmp .gt 29, 3) := by decide +kernel
theorem dX11_tells_29 : decode cX11_tells 29 = .ok (.aload_n 0, 1) := by decide +kernel
theorem dX11_tells_30 : decode cX11_tells 30 = .ok (.getfield 56, 3) := by decide +kernel
theorem dX11_tells_33 : decode cX11_tells 33 = .ok (.iload 4, 2) := by decide +kernel
theorem dX11_tells_35 : decode cX11_tells 35 = .ok (.iconst 1, 1) := by decide +kernel
theorem dX11_tells_36 : decode cX11_tells 36 = .ok (.isub, 1) := by decide +kernel
theorem dX11_tells_37 : decode cX11_tells 37 = .ok (.iaload, 1) := by decide +kernel
theorem dX11_tells_38 : decode cX11_tells 38 = .ok (.iload_n 1, 1) := by decide +kernel
theorem dX11_tells_39 : decode cX11_tells 39 = .ok (.if_icmp .ne 73, 3) := by decide +kernel
theorem dX11_tells_42 : decode cX11_tells 42 = .ok (.aload_n 0, 1) := by decide +kernel
theorem dX11_tells_43 : decode cX11_tells 43 = .ok (.getfield 59, 3) := by decide +kernel
theorem dX11_tells_46 : decode cX11_tells 46 = .ok (.iload 4, 2) := by decide +kernel
theorem dX11_tells_48 : decode cX11_tells 48 = .ok (.iconst 1, 1) := by decide +kernel
theorem dX11_tells_49 : decode cX11_tells 49 = .ok (.isub, 1) := by decide +kernel
theorem dX11_tells_50 : decode cX11_tells 50 = .ok (.iaload, 1) := by decide +kernel
theorem dX11_tells_51 : decode cX11_tells 51 = .ok (.iload_n 2, 1) := by decide +kernel
theorem dX11_tells_52 : decode cX11_tells 52 = .ok (.if_icmp .le 60, 3) := by decide +kernel
theorem dX11_tells_55 : decode cX11_tells 55 = .ok (.aload_n 0, 1) := by decide +kernel
theorem dX11_tells_56 : decode cX11_tells 56 = .ok (.getfield 56, 3) := by decide +kernel
theorem dX11_tells_59 : decode cX11_tells 59 = .ok (.iload 4, 2) := by decide +kernel
theorem dX11_tells_61 : decode cX11_tells 61 = .ok (.aload_n 0, 1) := by decide +kernel
theorem dX11_tells_62 : decode cX11_tells 62 = .ok (.getfield 56, 3) := by decide +kernel
theorem dX11_tells_65 : decode cX11_tells 65 = .ok (.iload 4, 2) := by decide +kernel
theorem dX11_tells_67 : decode cX11_tells 67 = .ok (.iconst 1, 1) := by decide +kernel
theorem dX11_tells_68 : decode cX11_tells 68 = .ok (.isub, 1) := by decide +kernel
theorem dX11_tells_69 : decode cX11_tells 69 = .ok (.iaload, 1) := by decide +kernel
theorem dX11_tells_70 : decode cX11_tells 70 = .ok (.iastore, 1) := by decide +kernel
theorem dX11_tells_71 : decode cX11_tells 71 = .ok (.aload_n 0, 1) := by decide +kernel
theorem dX11_tells_72 : decode cX11_tells 72 = .ok (.getfield 59, 3) := by decide +kernel
theorem dX11_tells_75 : decode cX11_tells 75 = .ok (.iload 4, 2) := by decide +kernel
theorem dX11_tells_77 : decode cX11_tells 77 = .ok (.aload_n 0, 1) := by decide +kernel
theorem dX11_tells_78 : decode cX11_tells 78 = .ok (.getfield 59, 3) := by decide +kernel
theorem dX11_tells_81 : decode cX11_tells 81 = .ok (.iload 4, 2) := by decide +kernel
theorem dX11_tells_83 : decode cX11_tells 83 = .ok (.iconst 1, 1) := by decide +kernel
theorem dX11_tells_84 : decode cX11_tells 84 = .ok (.isub, 1) := by decide +kernel
theorem dX11_tells_85 : decode cX11_tells 85 = .ok (.iaload, 1) := by decide +kernel
theorem dX11_tells_86 : decode cX11_tells 86 = .ok (.iastore, 1) := by decide +kernel
theorem dX11_tells_87 : decode cX11_tells 87 = .ok (.aload_n 0, 1) := by decide +kernel
theorem dX11_tells_88 : decode cX11_tells 88 = .ok (.getfield 62, 3) := by decide +kernel
theorem dX11_tells_91 : decode cX11_tells 91 = .ok (.iload 4, 2) := by decide +kernel
theorem dX11_tells_93 : decode cX11_tells 93 = .ok (.aload_n 0, 1) := by decide +kernel
theorem dX11_tells_94 : decode cX11_tells 94 = .ok (.getfield 62, 3) := by decide +kernel
theorem dX11_tells_97 : decode cX11_tells 97 = .ok (.iload 4, 2) := by decide +kernel
theorem dX11_tells_99 : decode cX11_tells 99 = .ok (.iconst 1, 1) := by decide +kernel
theorem dX11_tells_100 : decode cX11_tells 100 = .ok (.isub, 1) := by decide +kernel
theorem dX11_tells_101 : decode cX11_tells 101 = .ok (.iaload, 1) := by decide +kernel
theorem dX11_tells_102 : decode cX11_tells 102 = .ok (.iastore, 1) := by decide +kernel
theorem dX11_tells_103 : decode cX11_tells 103 = .ok (.iload 4, 2) := by decide +kernel
theorem dX11_tells_105 : decode cX11_tells 105 = .ok (.iconst 1, 1) := by decide +kernel
theorem dX11_tells_106 : decode cX11_tells 106 = .ok (.isub, 1) := by decide +kernel
theorem dX11_tells_107 : decode cX11_tells 107 = .ok (.istore 4, 2) := by decide +kernel
theorem dX11_tells_109 : decode cX11_tells 109 = .ok (.goto (-98), 3) := by decide +kernel
theorem dX11_tells_112 : decode cX11_tells 112 = .ok (.aload_n 0, 1) := by decide +kernel
theorem dX11_tells_113 : decode cX11_tells 113 = .ok (.getfield 56, 3) := by decide +kernel
theorem dX11_tells_116 : decode cX11_tells 116 = .ok (.iload 4, 2) := by decide +kernel
theorem dX11_tells_118 : decode cX11_tells 118 = .ok (.iload_n 1, 1) := by decide +kernel
theorem dX11_tells_119 : decode cX11_tells 119 = .ok (.iastore, 1) := by decide +kernel
theorem dX11_tells_120 : decode cX11_tells 120 = .ok (.aload_n 0, 1) := by decide +kernel
theorem dX11_tells_121 : decode cX11_tells 121 = .ok (.getfield 59, 3) := by decide +kernel
theorem dX11_tells_124 : decode cX11_tells 124 = .ok (.iload 4, 2) := by decide +kernel
theorem dX11_tells_126 : decode cX11_tells 126 = .ok (.iload_n 2, 1) := by decide +kernel
theorem dX11_tells_127 : decode cX11_tells 127 = .ok (.iastore, 1) := by decide +kernel
theorem dX11_tells_128 : decode cX11_tells 128 = .ok (.aload_n 0, 1) := by decide +kernel
theorem dX11_tells_129 : decode cX11_tells 129 = .ok (.getfield 62, 3) := by decide +kernel
theorem dX11_tells_132 : decode cX11_tells 132 = .ok (.iload 4, 2) := by decide +kernel
theorem dX11_tells_134 : decode cX11_tells 134 = .ok (.iload_n 3, 1) := by decide +kernel
theorem dX11_tells_135 : decode cX11_tells 135 = .ok (.iastore, 1) := by decide +kernel
theorem dX11_tells_136 : decode cX11_tells 136 = .ok (.aload_n 0, 1) := by decide +kernel
theorem dX11_tells_137 : decode cX11_tells 137 = .ok (.aload_n 0, 1) := by decide +kernel
theorem dX11_tells_138 : decode cX11_tells 138 = .ok (.getfield 131, 3) := by decide +kernel
theorem dX11_tells_141 : decode cX11_tells 141 = .ok (.iconst 1, 1) := by decide +kernel
theorem dX11_tells_142 : decode cX11_tells 142 = .ok (.iadd, 1) := by decide +kernel
theorem dX11_tells_143 : decode cX11_tells 143 = .ok (.putfield 131, 3) := by decide +kernel
theorem dX11_tells_146 : decode cX11_tells 146 = .ok (.return_, 1) := by decide +kernel
theorem dX11_resets_0 : decode cX11_resets 0 = .ok (.iload_n 1, 1) := by decide +kernel
theorem dX11_resets_1 : decode cX11_resets 1 = .ok (.aload_n 0, 1) := by decide +kernel
theorem dX11_resets_2 : decode cX11_resets 2 = .ok (.getfield 13, 3) := by decide +kernel
theorem dX11_resets_5 : decode cX11_resets 5 = .ok (.iconst 1, 1) := by decide +kernel
theorem dX11_resets_6 : decode cX11_resets 6 = .ok (.iaload, 1) := by decide +kernel
theorem dX11_resets_7 : decode cX11_resets 7 = .ok (.if_icmp .ge 20, 3) := by decide +kernel
theorem dX11_resets_10 : decode cX11_resets 10 = .ok (.iload_n 1, 1) := by decide +kernel
theorem dX11_resets_11 : decode cX11_resets 11 = .ok (.aload_n 0, 1) := by decide +kernel
theorem dX11_resets_12 : decode cX11_resets 12 = .ok (.getfield 13, 3) := by decide +kernel
theorem dX11_resets_15 : decode cX11_resets 15 = .ok (.iconst 3, 1) := by decide +kernel
theorem dX11_resets_16 : decode cX11_resets 16 = .ok (.iaload, 1) := by decide +kernel
theorem dX11_resets_17 : decode cX11_resets 17 = .ok (.if_icmp .lt 14, 3) := by decide +kernel
theorem dX11_resets_20 : decode cX11_resets 20 = .ok (.aload_n 0, 1) := by decide +kernel
theorem dX11_resets_21 : decode cX11_resets 21 = .ok (.getfield 134, 3) := by decide +kernel
theorem dX11_resets_24 : decode cX11_resets 24 = .ok (.ifCond .eq 7, 3) := by decide +kernel
theorem dX11_resets_27 : decode cX11_resets 27 = .ok (.iconst 1, 1) := by decide +kernel
theorem dX11_resets_28 : decode cX11_resets 28 = .ok (.goto 4, 3) := by decide +kernel
theorem dX11_resets_31 : decode cX11_resets 31 = .ok (.iconst 0, 1) := by decide +kernel
theorem dX11_resets_32 : decode cX11_resets 32 = .ok (.ireturn, 1) := by decide +kernel
theorem dX11_ruleOne_0 : decode cX11_ruleOne 0 = .ok (.aload_n 0, 1) := by decide +kernel
theorem dX11_ruleOne_1 : decode cX11_ruleOne 1 = .ok (.iconst 0, 1) := by decide +kernel
theorem dX11_ruleOne_2 : decode cX11_ruleOne 2 = .ok (.putfield 138, 3) := by decide +kernel
theorem dX11_ruleOne_5 : decode cX11_ruleOne 5 = .ok (.aload_n 0, 1) := by decide +kernel
theorem dX11_ruleOne_6 : decode cX11_ruleOne 6 = .ok (.iconst 0, 1) := by decide +kernel
theorem dX11_ruleOne_7 : decode cX11_ruleOne 7 = .ok (.putfield 134, 3) := by decide +kernel
theorem dX11_ruleOne_10 : decode cX11_ruleOne 10 = .ok (.iconst 0, 1) := by decide +kernel
theorem dX11_ruleOne_11 : decode cX11_ruleOne 11 = .ok (.istore_n 1, 1) := by decide +kernel
theorem dX11_ruleOne_12 : decode cX11_ruleOne 12 = .ok (.iconst (-1), 1) := by decide +kernel
theorem dX11_ruleOne_13 : decode cX11_ruleOne 13 = .ok (.istore_n 2, 1) := by decide +kernel
theorem dX11_ruleOne_14 : decode cX11_ruleOne 14 = .ok (.iconst 0, 1) := by decide +kernel
theorem dX11_ruleOne_15 : decode cX11_ruleOne 15 = .ok (.istore_n 3, 1) := by decide +kernel
theorem dX11_ruleOne_16 : decode cX11_ruleOne 16 = .ok (.iconst 0, 1) := by decide +kernel
theorem dX11_ruleOne_17 : decode cX11_ruleOne 17 = .ok (.istore 4, 2) := by decide +kernel
theorem dX11_ruleOne_19 : decode cX11_ruleOne 19 = .ok (.iload 4, 2) := by decide +kernel
theorem dX11_ruleOne_21 : decode cX11_ruleOne 21 = .ok (.aload_n 0, 1) := by decide +kernel
theorem dX11_ruleOne_22 : decode cX11_ruleOne 22 = .ok (.getfield 121, 3) := by decide +kernel
theorem dX11_ruleOne_25 : decode cX11_ruleOne 25 = .ok (.if_icmp .ge 142, 3) := by decide +kernel
theorem dX11_ruleOne_28 : decode cX11_ruleOne 28 = .ok (.aload_n 0, 1) := by decide +kernel
theorem dX11_ruleOne_29 : decode cX11_ruleOne 29 = .ok (.getfield 44, 3) := by decide +kernel
theorem dX11_ruleOne_32 : decode cX11_ruleOne 32 = .ok (.iload 4, 2) := by decide +kernel
theorem dX11_ruleOne_34 : decode cX11_ruleOne 34 = .ok (.iaload, 1) := by decide +kernel
theorem dX11_ruleOne_35 : decode cX11_ruleOne 35 = .ok (.ifCond .ne 42, 3) := by decide +kernel
theorem dX11_ruleOne_38 : decode cX11_ruleOne 38 = .ok (.aload_n 0, 1) := by decide +kernel
theorem dX11_ruleOne_39 : decode cX11_ruleOne 39 = .ok (.aload_n 0, 1) := by decide +kernel
theorem dX11_ruleOne_40 : decode cX11_ruleOne 40 = .ok (.getfield 138, 3) := by decide +kernel
theorem dX11_ruleOne_43 : decode cX11_ruleOne 43 = .ok (.iconst 1, 1) := by decide +kernel
theorem dX11_ruleOne_44 : decode cX11_ruleOne 44 = .ok (.iadd, 1) := by decide +kernel
theorem dX11_ruleOne_45 : decode cX11_ruleOne 45 = .ok (.putfield 138, 3) := by decide +kernel
theorem dX11_ruleOne_48 : decode cX11_ruleOne 48 = .ok (.aload_n 0, 1) := by decide +kernel
theorem dX11_ruleOne_49 : decode cX11_ruleOne 49 = .ok (.getfield 138, 3) := by decide +kernel
theorem dX11_ruleOne_52 : decode cX11_ruleOne 52 = .ok (.aload_n 0, 1) := by decide +kernel
theorem dX11_ruleOne_53 : decode cX11_ruleOne 53 = .ok (.getfield 13, 3) := by decide +kernel
theorem dX11_ruleOne_56 : decode cX11_ruleOne 56 = .ok (.iconst 0, 1) := by decide +kernel
theorem dX11_ruleOne_57 : decode cX11_ruleOne 57 = .ok (.iaload, 1) := by decide +kernel
theorem dX11_ruleOne_58 : decode cX11_ruleOne 58 = .ok (.if_icmp .le 19, 3) := by decide +kernel
theorem dX11_ruleOne_61 : decode cX11_ruleOne 61 = .ok (.iload_n 1, 1) := by decide +kernel
theorem dX11_ruleOne_62 : decode cX11_ruleOne 62 = .ok (.iconst 1, 1) := by decide +kernel
theorem dX11_ruleOne_63 : decode cX11_ruleOne 63 = .ok (.iadd, 1) := by decide +kernel
theorem dX11_ruleOne_64 : decode cX11_ruleOne 64 = .ok (.istore_n 1, 1) := by decide +kernel
theorem dX11_ruleOne_65 : decode cX11_ruleOne 65 = .ok (.iload_n 2, 1) := by decide +kernel
theorem dX11_ruleOne_66 : decode cX11_ruleOne 66 = .ok (.iconst (-1), 1) := by decide +kernel
theorem dX11_ruleOne_67 : decode cX11_ruleOne 67 = .ok (.if_icmp .ne 8, 3) := by decide +kernel
theorem dX11_ruleOne_70 : decode cX11_ruleOne 70 = .ok (.iload 4, 2) := by decide +kernel
theorem dX11_ruleOne_72 : decode cX11_ruleOne 72 = .ok (.goto 4, 3) := by decide +kernel
theorem dX11_ruleOne_75 : decode cX11_ruleOne 75 = .ok (.iload_n 2, 1) := by decide +kernel
theorem dX11_ruleOne_76 : decode cX11_ruleOne 76 = .ok (.istore_n 2, 1) := by decide +kernel
theorem dX11_ruleOne_77 : decode cX11_ruleOne 77 = .ok (.iload_n 3, 1) := by decide +kernel
theorem dX11_ruleOne_78 : decode cX11_ruleOne 78 = .ok (.aload_n 0, 1) := by decide +kernel
theorem dX11_ruleOne_79 : decode cX11_ruleOne 79 = .ok (.getfield 128, 3) := by decide +kernel
theorem dX11_ruleOne_82 : decode cX11_ruleOne 82 = .ok (.if_icmp .eq 79, 3) := by decide +kernel
theorem dX11_ruleOne_85 : decode cX11_ruleOne 85 = .ok (.aload_n 0, 1) := by decide +kernel
theorem dX11_ruleOne_86 : decode cX11_ruleOne 86 = .ok (.getfield 53, 3) := by decide +kernel
theorem dX11_ruleOne_89 : decode cX11_ruleOne 89 = .ok (.iload_n 3, 1) := by decide +kernel
theorem dX11_ruleOne_90 : decode cX11_ruleOne 90 = .ok (.iaload, 1) := by decide +kernel
theorem dX11_ruleOne_91 : decode cX11_ruleOne 91 = .ok (.iload 4, 2) := by decide +kernel
theorem dX11_ruleOne_93 : decode cX11_ruleOne 93 = .ok (.iconst 1, 1) := by decide +kernel
theorem dX11_ruleOne_94 : decode cX11_ruleOne 94 = .ok (.iadd, 1) := by decide +kernel
theorem dX11_ruleOne_95 : decode cX11_ruleOne 95 = .ok (.if_icmp .eq 6, 3) := by decide +kernel
theorem dX11_ruleOne_98 : decode cX11_ruleOne 98 = .ok (.goto 63, 3) := by decide +kernel
theorem dX11_ruleOne_101 : decode cX11_ruleOne 101 = .ok (.aload_n 0, 1) := by decide +kernel
theorem dX11_ruleOne_102 : decode cX11_ruleOne 102 = .ok (.iload_n 3, 1) := by decide +kernel
theorem dX11_ruleOne_103 : decode cX11_ruleOne 103 = .ok (.invokevirtual 141, 3) := by decide +kernel
theorem dX11_ruleOne_106 : decode cX11_ruleOne 106 = .ok (.istore 5, 2) := by decide +kernel
theorem dX11_ruleOne_108 : decode cX11_ruleOne 108 = .ok (.aload_n 0, 1) := by decide +kernel
theorem dX11_ruleOne_109 : decode cX11_ruleOne 109 = .ok (.iload 5, 2) := by decide +kernel
theorem dX11_ruleOne_111 : decode cX11_ruleOne 111 = .ok (.invokevirtual 144, 3) := by decide +kernel
theorem dX11_ruleOne_114 : decode cX11_ruleOne 114 = .ok (.ifCond .eq 27, 3) := by decide +kernel
theorem dX11_ruleOne_117 : decode cX11_ruleOne 117 = .ok (.aload_n 0, 1) := by decide +kernel
theorem dX11_ruleOne_118 : decode cX11_ruleOne 118 = .ok (.iload_n 2, 1) := by decide +kernel
theorem dX11_ruleOne_119 : decode cX11_ruleOne 119 = .ok (.iconst 1, 1) := by decide +kernel
theorem dX11_ruleOne_120 : decode cX11_ruleOne 120 = .ok (.iload_n 1, 1) := by decide +kernel
theorem dX11_ruleOne_121 : decode cX11_ruleOne 121 = .ok (.invokevirtual 147, 3) := by decide +kernel
theorem dX11_ruleOne_124 : decode cX11_ruleOne 124 = .ok (.aload_n 0, 1) := by decide +kernel
theorem dX11_ruleOne_125 : decode cX11_ruleOne 125 = .ok (.iconst 0, 1) := by decide +kernel
theorem dX11_ruleOne_126 : decode cX11_ruleOne 126 = .ok (.putfield 138, 3) := by decide +kernel
theorem dX11_ruleOne_129 : decode cX11_ruleOne 129 = .ok (.aload_n 0, 1) := by decide +kernel
theorem dX11_ruleOne_130 : decode cX11_ruleOne 130 = .ok (.iconst 0, 1) := by decide +kernel
theorem dX11_ruleOne_131 : decode cX11_ruleOne 131 = .ok (.putfield 134, 3) := by decide +kernel
theorem dX11_ruleOne_134 : decode cX11_ruleOne 134 = .ok (.iconst 0, 1) := by decide +kernel
theorem dX11_ruleOne_135 : decode cX11_ruleOne 135 = .ok (.istore_n 1, 1) := by decide +kernel
theorem dX11_ruleOne_136 : decode cX11_ruleOne 136 = .ok (.iconst (-1), 1) := by decide +kernel
theorem dX11_ruleOne_137 : decode cX11_ruleOne 137 = .ok (.istore_n 2, 1) := by decide +kernel
theorem dX11_ruleOne_138 : decode cX11_ruleOne 138 = .ok (.goto 19, 3) := by decide +kernel
theorem dX11_ruleOne_141 : decode cX11_ruleOne 141 = .ok (.iload 5, 2) := by decide +kernel
theorem dX11_ruleOne_143 : decode cX11_ruleOne 143 = .ok (.aload_n 0, 1) := by decide +kernel
theorem dX11_ruleOne_144 : decode cX11_ruleOne 144 = .ok (.getfield 13, 3) := by decide +kernel
theorem dX11_ruleOne_147 : decode cX11_ruleOne 147 = .ok (.iconst 2, 1) := by decide +kernel
theorem dX11_ruleOne_148 : decode cX11_ruleOne 148 = .ok (.iaload, 1) := by decide +kernel
theorem dX11_ruleOne_149 : decode cX11_ruleOne 149 = .ok (.if_icmp .lt 8, 3) := by decide +kernel
theorem dX11_ruleOne_152 : decode cX11_ruleOne 152 = .ok (.aload_n 0, 1) := by decide +kernel
theorem dX11_ruleOne_153 : decode cX11_ruleOne 153 = .ok (.iconst 1, 1) := by decide +kernel
theorem dX11_ruleOne_154 : decode cX11_ruleOne 154 = .ok (.putfield 134, 3) := by decide +kernel
theorem dX11_ruleOne_157 : decode cX11_ruleOne 157 = .ok (.iload_n 3, 1) := by decide +kernel
theorem dX11_ruleOne_158 : decode cX11_ruleOne 158 = .ok (.iconst 1, 1) := by decide +kernel
theorem dX11_ruleOne_159 : decode cX11_ruleOne 159 = .ok (.iadd, 1) := by decide +kernel
theorem dX11_ruleOne_160 : decode cX11_ruleOne 160 = .ok (.istore_n 3, 1) := by decide +kernel
theorem dX11_ruleOne_161 : decode cX11_ruleOne 161 = .ok (.iinc 4 1, 3) := by decide +kernel
theorem dX11_ruleOne_164 : decode cX11_ruleOne 164 = .ok (.goto (-145), 3) := by decide +kernel
theorem dX11_ruleOne_167 : decode cX11_ruleOne 167 = .ok (.aload_n 0, 1) := by decide +kernel
theorem dX11_ruleOne_168 : decode cX11_ruleOne 168 = .ok (.iload_n 2, 1) := by decide +kernel
theorem dX11_ruleOne_169 : decode cX11_ruleOne 169 = .ok (.iconst 1, 1) := by decide +kernel
theorem dX11_ruleOne_170 : decode cX11_ruleOne 170 = .ok (.iload_n 1, 1) := by decide +kernel
theorem dX11_ruleOne_171 : decode cX11_ruleOne 171 = .ok (.invokevirtual 147, 3) := by decide +kernel
theorem dX11_ruleOne_174 : decode cX11_ruleOne 174 = .ok (.return_, 1) := by decide +kernel
theorem dX11_driveIn_0 : decode cX11_driveIn 0 = .ok (.aload_n 0, 1) := by decide +kernel
theorem dX11_driveIn_1 : decode cX11_driveIn 1 = .ok (.getfield 47, 3) := by decide +kernel
theorem dX11_driveIn_4 : decode cX11_driveIn 4 = .ok (.iload_n 2, 1) := by decide +kernel
theorem dX11_driveIn_5 : decode cX11_driveIn 5 = .ok (.iaload, 1) := by decide +kernel
theorem dX11_driveIn_6 : decode cX11_driveIn 6 = .ok (.aload_n 0, 1) := by decide +kernel
theorem dX11_driveIn_7 : decode cX11_driveIn 7 = .ok (.getfield 47, 3) := by decide +kernel
theorem dX11_driveIn_10 : decode cX11_driveIn 10 = .ok (.iload_n 1, 1) := by decide +kernel
theorem dX11_driveIn_11 : decode cX11_driveIn 11 = .ok (.iaload, 1) := by decide +kernel
theorem dX11_driveIn_12 : decode cX11_driveIn 12 = .ok (.isub, 1) := by decide +kernel
theorem dX11_driveIn_13 : decode cX11_driveIn 13 = .ok (.ireturn, 1) := by decide +kernel
theorem dX11_goesAbove_0 : decode cX11_goesAbove 0 = .ok (.iload_n 1, 1) := by decide +kernel
theorem dX11_goesAbove_1 : decode cX11_goesAbove 1 = .ok (.istore_n 3, 1) := by decide +kernel
theorem dX11_goesAbove_2 : decode cX11_goesAbove 2 = .ok (.aload_n 0, 1) := by decide +kernel
theorem dX11_goesAbove_3 : decode cX11_goesAbove 3 = .ok (.getfield 47, 3) := by decide +kernel
theorem dX11_goesAbove_6 : decode cX11_goesAbove 6 = .ok (.iload_n 3, 1) := by decide +kernel
theorem dX11_goesAbove_7 : decode cX11_goesAbove 7 = .ok (.iconst 1, 1) := by decide +kernel
theorem dX11_goesAbove_8 : decode cX11_goesAbove 8 = .ok (.iadd, 1) := by decide +kernel
theorem dX11_goesAbove_9 : decode cX11_goesAbove 9 = .ok (.iaload, 1) := by decide +kernel
theorem dX11_goesAbove_10 : decode cX11_goesAbove 10 = .ok (.aload_n 0, 1) := by decide +kernel
theorem dX11_goesAbove_11 : decode cX11_goesAbove 11 = .ok (.getfield 47, 3) := by decide +kernel
theorem dX11_goesAbove_14 : decode cX11_goesAbove 14 = .ok (.iload_n 1, 1) := by decide +kernel
theorem dX11_goesAbove_15 : decode cX11_goesAbove 15 = .ok (.iaload, 1) := by decide +kernel
theorem dX11_goesAbove_16 : decode cX11_goesAbove 16 = .ok (.isub, 1) := by decide +kernel
theorem dX11_goesAbove_17 : decode cX11_goesAbove 17 = .ok (.iload_n 2, 1) := by decide +kernel
theorem dX11_goesAbove_18 : decode cX11_goesAbove 18 = .ok (.if_icmp .gt 10, 3) := by decide +kernel
theorem dX11_goesAbove_21 : decode cX11_goesAbove 21 = .ok (.iload_n 3, 1) := by decide +kernel
theorem dX11_goesAbove_22 : decode cX11_goesAbove 22 = .ok (.iconst 1, 1) := by decide +kernel
theorem dX11_goesAbove_23 : decode cX11_goesAbove 23 = .ok (.iadd, 1) := by decide +kernel
theorem dX11_goesAbove_24 : decode cX11_goesAbove 24 = .ok (.istore_n 3, 1) := by decide +kernel
theorem dX11_goesAbove_25 : decode cX11_goesAbove 25 = .ok (.goto (-23), 3) := by decide +kernel
theorem dX11_goesAbove_28 : decode cX11_goesAbove 28 = .ok (.iload_n 3, 1) := by decide +kernel
theorem dX11_goesAbove_29 : decode cX11_goesAbove 29 = .ok (.ireturn, 1) := by decide +kernel
theorem dX11_finds_0 : decode cX11_finds 0 = .ok (.aload_n 0, 1) := by decide +kernel
theorem dX11_finds_1 : decode cX11_finds 1 = .ok (.iconst 0, 1) := by decide +kernel
theorem dX11_finds_2 : decode cX11_finds 2 = .ok (.putfield 151, 3) := by decide +kernel
theorem dX11_finds_5 : decode cX11_finds 5 = .ok (.iconst 0, 1) := by decide +kernel
theorem dX11_finds_6 : decode cX11_finds 6 = .ok (.istore_n 1, 1) := by decide +kernel
theorem dX11_finds_7 : decode cX11_finds 7 = .ok (.iload_n 1, 1) := by decide +kernel
theorem dX11_finds_8 : decode cX11_finds 8 = .ok (.aload_n 0, 1) := by decide +kernel
theorem dX11_finds_9 : decode cX11_finds 9 = .ok (.getfield 128, 3) := by decide +kernel
theorem dX11_finds_12 : decode cX11_finds 12 = .ok (.if_icmp .ge 71, 3) := by decide +kernel
theorem dX11_finds_15 : decode cX11_finds 15 = .ok (.aload_n 0, 1) := by decide +kernel
theorem dX11_finds_16 : decode cX11_finds 16 = .ok (.getfield 151, 3) := by decide +kernel
theorem dX11_finds_19 : decode cX11_finds 19 = .ok (.bipush 12, 2) := by decide +kernel
theorem dX11_finds_21 : decode cX11_finds 21 = .ok (.if_icmp .ge 62, 3) := by decide +kernel
theorem dX11_finds_24 : decode cX11_finds 24 = .ok (.aload_n 0, 1) := by decide +kernel
theorem dX11_finds_25 : decode cX11_finds 25 = .ok (.iload_n 1, 1) := by decide +kernel
theorem dX11_finds_26 : decode cX11_finds 26 = .ok (.invokevirtual 141, 3) := by decide +kernel
theorem dX11_finds_29 : decode cX11_finds 29 = .ok (.aload_n 0, 1) := by decide +kernel
theorem dX11_finds_30 : decode cX11_finds 30 = .ok (.getfield 13, 3) := by decide +kernel
theorem dX11_finds_33 : decode cX11_finds 33 = .ok (.bipush 8, 2) := by decide +kernel
theorem dX11_finds_35 : decode cX11_finds 35 = .ok (.iaload, 1) := by decide +kernel
theorem dX11_finds_36 : decode cX11_finds 36 = .ok (.if_icmp .lt 41, 3) := by decide +kernel
theorem dX11_finds_39 : decode cX11_finds 39 = .ok (.aload_n 0, 1) := by decide +kernel
theorem dX11_finds_40 : decode cX11_finds 40 = .ok (.iload_n 1, 1) := by decide +kernel
theorem dX11_finds_41 : decode cX11_finds 41 = .ok (.invokevirtual 141, 3) := by decide +kernel
theorem dX11_finds_44 : decode cX11_finds 44 = .ok (.aload_n 0, 1) := by decide +kernel
theorem dX11_finds_45 : decode cX11_finds 45 = .ok (.getfield 13, 3) := by decide +kernel
theorem dX11_finds_48 : decode cX11_finds 48 = .ok (.bipush 7, 2) := by decide +kernel
theorem dX11_finds_50 : decode cX11_finds 50 = .ok (.iaload, 1) := by decide +kernel
theorem dX11_finds_51 : decode cX11_finds 51 = .ok (.if_icmp .lt 6, 3) := by decide +kernel
theorem dX11_finds_54 : decode cX11_finds 54 = .ok (.goto 23, 3) := by decide +kernel
theorem dX11_finds_57 : decode cX11_finds 57 = .ok (.aload_n 0, 1) := by decide +kernel
theorem dX11_finds_58 : decode cX11_finds 58 = .ok (.getfield 65, 3) := by decide +kernel
theorem dX11_finds_61 : decode cX11_finds 61 = .ok (.aload_n 0, 1) := by decide +kernel
theorem dX11_finds_62 : decode cX11_finds 62 = .ok (.getfield 151, 3) := by decide +kernel
theorem dX11_finds_65 : decode cX11_finds 65 = .ok (.iload_n 1, 1) := by decide +kernel
theorem dX11_finds_66 : decode cX11_finds 66 = .ok (.iastore, 1) := by decide +kernel
theorem dX11_finds_67 : decode cX11_finds 67 = .ok (.aload_n 0, 1) := by decide +kernel
theorem dX11_finds_68 : decode cX11_finds 68 = .ok (.aload_n 0, 1) := by decide +kernel
theorem dX11_finds_69 : decode cX11_finds 69 = .ok (.getfield 151, 3) := by decide +kernel
theorem dX11_finds_72 : decode cX11_finds 72 = .ok (.iconst 1, 1) := by decide +kernel
theorem dX11_finds_73 : decode cX11_finds 73 = .ok (.iadd, 1) := by decide +kernel
theorem dX11_finds_74 : decode cX11_finds 74 = .ok (.putfield 151, 3) := by decide +kernel
theorem dX11_finds_77 : decode cX11_finds 77 = .ok (.iinc 1 1, 3) := by decide +kernel
theorem dX11_finds_80 : decode cX11_finds 80 = .ok (.goto (-73), 3) := by decide +kernel
theorem dX11_finds_83 : decode cX11_finds 83 = .ok (.return_, 1) := by decide +kernel
theorem dX11_bits_0 : decode cX11_bits 0 = .ok (.iconst 0, 1) := by decide +kernel
theorem dX11_bits_1 : decode cX11_bits 1 = .ok (.istore_n 1, 1) := by decide +kernel
theorem dX11_bits_2 : decode cX11_bits 2 = .ok (.iconst 0, 1) := by decide +kernel
theorem dX11_bits_3 : decode cX11_bits 3 = .ok (.istore_n 2, 1) := by decide +kernel
theorem dX11_bits_4 : decode cX11_bits 4 = .ok (.iload_n 2, 1) := by decide +kernel
theorem dX11_bits_5 : decode cX11_bits 5 = .ok (.bipush 12, 2) := by decide +kernel
theorem dX11_bits_7 : decode cX11_bits 7 = .ok (.if_icmp .ge 17, 3) := by decide +kernel
theorem dX11_bits_10 : decode cX11_bits 10 = .ok (.iload_n 1, 1) := by decide +kernel
theorem dX11_bits_11 : decode cX11_bits 11 = .ok (.iload_n 0, 1) := by decide +kernel
theorem dX11_bits_12 : decode cX11_bits 12 = .ok (.iload_n 2, 1) := by decide +kernel
theorem dX11_bits_13 : decode cX11_bits 13 = .ok (.ishr, 1) := by decide +kernel
end
section
theorem dX11_bits_14 : decode cX11_bits 14 = .ok (.iconst 1, 1) := by decide +kernel
theorem dX11_bits_15 : decode cX11_bits 15 = .ok (.iand, 1) := by decide +kernel
theorem dX11_bits_16 : decode cX11_bits 16 = .ok (.iadd, 1) := by decide +kernel
theorem dX11_bits_17 : decode cX11_bits 17 = .ok (.istore_n 1, 1) := by decide +kernel
theorem dX11_bits_18 : decode cX11_bits 18 = .ok (.iinc 2 1, 3) := by decide +kernel
theorem dX11_bits_21 : decode cX11_bits 21 = .ok (.goto (-17), 3) := by decide +kernel
theorem dX11_bits_24 : decode cX11_bits 24 = .ok (.iload_n 1, 1) := by decide +kernel
theorem dX11_bits_25 : decode cX11_bits 25 = .ok (.ireturn, 1) := by decide +kernel
theorem dX11_isTaken_0 : decode cX11_isTaken 0 = .ok (.iconst 0, 1) := by decide +kernel
theorem dX11_isTaken_1 : decode cX11_isTaken 1 = .ok (.istore_n 3, 1) := by decide +kernel
theorem dX11_isTaken_2 : decode cX11_isTaken 2 = .ok (.iload_n 3, 1) := by decide +kernel
theorem dX11_isTaken_3 : decode cX11_isTaken 3 = .ok (.aload_n 0, 1) := by decide +kernel
theorem dX11_isTaken_4 : decode cX11_isTaken 4 = .ok (.getfield 151, 3) := by decide +kernel
theorem dX11_isTaken_7 : decode cX11_isTaken 7 = .ok (.if_icmp .ge 34, 3) := by decide +kernel
theorem dX11_isTaken_10 : decode cX11_isTaken 10 = .ok (.aload_n 0, 1) := by decide +kernel
theorem dX11_isTaken_11 : decode cX11_isTaken 11 = .ok (.getfield 65, 3) := by decide +kernel
theorem dX11_isTaken_14 : decode cX11_isTaken 14 = .ok (.iload_n 3, 1) := by decide +kernel
theorem dX11_isTaken_15 : decode cX11_isTaken 15 = .ok (.iaload, 1) := by decide +kernel
theorem dX11_isTaken_16 : decode cX11_isTaken 16 = .ok (.iload_n 1, 1) := by decide +kernel
theorem dX11_isTaken_17 : decode cX11_isTaken 17 = .ok (.if_icmp .ne 18, 3) := by decide +kernel
theorem dX11_isTaken_20 : decode cX11_isTaken 20 = .ok (.iload_n 2, 1) := by decide +kernel
theorem dX11_isTaken_21 : decode cX11_isTaken 21 = .ok (.iload_n 3, 1) := by decide +kernel
theorem dX11_isTaken_22 : decode cX11_isTaken 22 = .ok (.ishr, 1) := by decide +kernel
theorem dX11_isTaken_23 : decode cX11_isTaken 23 = .ok (.iconst 1, 1) := by decide +kernel
theorem dX11_isTaken_24 : decode cX11_isTaken 24 = .ok (.iand, 1) := by decide +kernel
theorem dX11_isTaken_25 : decode cX11_isTaken 25 = .ok (.iconst 1, 1) := by decide +kernel
theorem dX11_isTaken_26 : decode cX11_isTaken 26 = .ok (.if_icmp .ne 7, 3) := by decide +kernel
theorem dX11_isTaken_29 : decode cX11_isTaken 29 = .ok (.iconst 1, 1) := by decide +kernel
theorem dX11_isTaken_30 : decode cX11_isTaken 30 = .ok (.goto 4, 3) := by decide +kernel
theorem dX11_isTaken_33 : decode cX11_isTaken 33 = .ok (.iconst 0, 1) := by decide +kernel
theorem dX11_isTaken_34 : decode cX11_isTaken 34 = .ok (.ireturn, 1) := by decide +kernel
theorem dX11_isTaken_35 : decode cX11_isTaken 35 = .ok (.iinc 3 1, 3) := by decide +kernel
theorem dX11_isTaken_38 : decode cX11_isTaken 38 = .ok (.goto (-36), 3) := by decide +kernel
theorem dX11_isTaken_41 : decode cX11_isTaken 41 = .ok (.iconst 0, 1) := by decide +kernel
theorem dX11_isTaken_42 : decode cX11_isTaken 42 = .ok (.ireturn, 1) := by decide +kernel
theorem dX11_mayBe_0 : decode cX11_mayBe 0 = .ok (.iconst 0, 1) := by decide +kernel
theorem dX11_mayBe_1 : decode cX11_mayBe 1 = .ok (.istore_n 2, 1) := by decide +kernel
theorem dX11_mayBe_2 : decode cX11_mayBe 2 = .ok (.iload_n 2, 1) := by decide +kernel
theorem dX11_mayBe_3 : decode cX11_mayBe 3 = .ok (.iconst 2, 1) := by decide +kernel
theorem dX11_mayBe_4 : decode cX11_mayBe 4 = .ok (.if_icmp .ge 82, 3) := by decide +kernel
theorem dX11_mayBe_7 : decode cX11_mayBe 7 = .ok (.iconst 0, 1) := by decide +kernel
theorem dX11_mayBe_8 : decode cX11_mayBe 8 = .ok (.istore_n 3, 1) := by decide +kernel
theorem dX11_mayBe_9 : decode cX11_mayBe 9 = .ok (.iconst 0, 1) := by decide +kernel
theorem dX11_mayBe_10 : decode cX11_mayBe 10 = .ok (.istore 4, 2) := by decide +kernel
theorem dX11_mayBe_12 : decode cX11_mayBe 12 = .ok (.iload 4, 2) := by decide +kernel
theorem dX11_mayBe_14 : decode cX11_mayBe 14 = .ok (.aload_n 0, 1) := by decide +kernel
theorem dX11_mayBe_15 : decode cX11_mayBe 15 = .ok (.getfield 151, 3) := by decide +kernel
theorem dX11_mayBe_18 : decode cX11_mayBe 18 = .ok (.if_icmp .ge 49, 3) := by decide +kernel
theorem dX11_mayBe_21 : decode cX11_mayBe 21 = .ok (.iload_n 3, 1) := by decide +kernel
theorem dX11_mayBe_22 : decode cX11_mayBe 22 = .ok (.iload_n 1, 1) := by decide +kernel
theorem dX11_mayBe_23 : decode cX11_mayBe 23 = .ok (.iload 4, 2) := by decide +kernel
theorem dX11_mayBe_25 : decode cX11_mayBe 25 = .ok (.ishr, 1) := by decide +kernel
theorem dX11_mayBe_26 : decode cX11_mayBe 26 = .ok (.iconst 1, 1) := by decide +kernel
theorem dX11_mayBe_27 : decode cX11_mayBe 27 = .ok (.iand, 1) := by decide +kernel
theorem dX11_mayBe_28 : decode cX11_mayBe 28 = .ok (.iconst 1, 1) := by decide +kernel
theorem dX11_mayBe_29 : decode cX11_mayBe 29 = .ok (.if_icmp .ne 29, 3) := by decide +kernel
theorem dX11_mayBe_32 : decode cX11_mayBe 32 = .ok (.aload_n 0, 1) := by decide +kernel
theorem dX11_mayBe_33 : decode cX11_mayBe 33 = .ok (.getfield 53, 3) := by decide +kernel
theorem dX11_mayBe_36 : decode cX11_mayBe 36 = .ok (.aload_n 0, 1) := by decide +kernel
theorem dX11_mayBe_37 : decode cX11_mayBe 37 = .ok (.getfield 65, 3) := by decide +kernel
theorem dX11_mayBe_40 : decode cX11_mayBe 40 = .ok (.iload 4, 2) := by decide +kernel
theorem dX11_mayBe_42 : decode cX11_mayBe 42 = .ok (.iaload, 1) := by decide +kernel
theorem dX11_mayBe_43 : decode cX11_mayBe 43 = .ok (.iaload, 1) := by decide +kernel
theorem dX11_mayBe_44 : decode cX11_mayBe 44 = .ok (.iconst 1, 1) := by decide +kernel
theorem dX11_mayBe_45 : decode cX11_mayBe 45 = .ok (.isub, 1) := by decide +kernel
theorem dX11_mayBe_46 : decode cX11_mayBe 46 = .ok (.sipush 10080, 3) := by decide +kernel
theorem dX11_mayBe_49 : decode cX11_mayBe 49 = .ok (.idiv, 1) := by decide +kernel
theorem dX11_mayBe_50 : decode cX11_mayBe 50 = .ok (.iload_n 2, 1) := by decide +kernel
theorem dX11_mayBe_51 : decode cX11_mayBe 51 = .ok (.if_icmp .ne 7, 3) := by decide +kernel
theorem dX11_mayBe_54 : decode cX11_mayBe 54 = .ok (.iconst 1, 1) := by decide +kernel
theorem dX11_mayBe_55 : decode cX11_mayBe 55 = .ok (.goto 4, 3) := by decide +kernel
theorem dX11_mayBe_58 : decode cX11_mayBe 58 = .ok (.iconst 0, 1) := by decide +kernel
theorem dX11_mayBe_59 : decode cX11_mayBe 59 = .ok (.iadd, 1) := by decide +kernel
theorem dX11_mayBe_60 : decode cX11_mayBe 60 = .ok (.istore_n 3, 1) := by decide +kernel
theorem dX11_mayBe_61 : decode cX11_mayBe 61 = .ok (.iinc 4 1, 3) := by decide +kernel
theorem dX11_mayBe_64 : decode cX11_mayBe 64 = .ok (.goto (-52), 3) := by decide +kernel
theorem dX11_mayBe_67 : decode cX11_mayBe 67 = .ok (.iload_n 3, 1) := by decide +kernel
theorem dX11_mayBe_68 : decode cX11_mayBe 68 = .ok (.aload_n 0, 1) := by decide +kernel
theorem dX11_mayBe_69 : decode cX11_mayBe 69 = .ok (.getfield 13, 3) := by decide +kernel
theorem dX11_mayBe_72 : decode cX11_mayBe 72 = .ok (.bipush 9, 2) := by decide +kernel
theorem dX11_mayBe_74 : decode cX11_mayBe 74 = .ok (.iaload, 1) := by decide +kernel
theorem dX11_mayBe_75 : decode cX11_mayBe 75 = .ok (.if_icmp .le 5, 3) := by decide +kernel
theorem dX11_mayBe_78 : decode cX11_mayBe 78 = .ok (.iconst 0, 1) := by decide +kernel
theorem dX11_mayBe_79 : decode cX11_mayBe 79 = .ok (.ireturn, 1) := by decide +kernel
theorem dX11_mayBe_80 : decode cX11_mayBe 80 = .ok (.iinc 2 1, 3) := by decide +kernel
theorem dX11_mayBe_83 : decode cX11_mayBe 83 = .ok (.goto (-81), 3) := by decide +kernel
theorem dX11_mayBe_86 : decode cX11_mayBe 86 = .ok (.iconst 1, 1) := by decide +kernel
theorem dX11_mayBe_87 : decode cX11_mayBe 87 = .ok (.ireturn, 1) := by decide +kernel
theorem dX11_parts_0 : decode cX11_parts 0 = .ok (.aload_n 0, 1) := by decide +kernel
theorem dX11_parts_1 : decode cX11_parts 1 = .ok (.iconst 0, 1) := by decide +kernel
theorem dX11_parts_2 : decode cX11_parts 2 = .ok (.putfield 154, 3) := by decide +kernel
theorem dX11_parts_5 : decode cX11_parts 5 = .ok (.iconst 0, 1) := by decide +kernel
theorem dX11_parts_6 : decode cX11_parts 6 = .ok (.istore_n 2, 1) := by decide +kernel
theorem dX11_parts_7 : decode cX11_parts 7 = .ok (.iconst 0, 1) := by decide +kernel
theorem dX11_parts_8 : decode cX11_parts 8 = .ok (.istore_n 3, 1) := by decide +kernel
theorem dX11_parts_9 : decode cX11_parts 9 = .ok (.iload_n 3, 1) := by decide +kernel
theorem dX11_parts_10 : decode cX11_parts 10 = .ok (.aload_n 0, 1) := by decide +kernel
theorem dX11_parts_11 : decode cX11_parts 11 = .ok (.getfield 128, 3) := by decide +kernel
theorem dX11_parts_14 : decode cX11_parts 14 = .ok (.if_icmp .ge 88, 3) := by decide +kernel
theorem dX11_parts_17 : decode cX11_parts 17 = .ok (.aload_n 0, 1) := by decide +kernel
theorem dX11_parts_18 : decode cX11_parts 18 = .ok (.iload_n 3, 1) := by decide +kernel
theorem dX11_parts_19 : decode cX11_parts 19 = .ok (.invokevirtual 141, 3) := by decide +kernel
theorem dX11_parts_22 : decode cX11_parts 22 = .ok (.aload_n 0, 1) := by decide +kernel
theorem dX11_parts_23 : decode cX11_parts 23 = .ok (.getfield 13, 3) := by decide +kernel
theorem dX11_parts_26 : decode cX11_parts 26 = .ok (.bipush 7, 2) := by decide +kernel
theorem dX11_parts_28 : decode cX11_parts 28 = .ok (.iaload, 1) := by decide +kernel
theorem dX11_parts_29 : decode cX11_parts 29 = .ok (.if_icmp .ge 15, 3) := by decide +kernel
theorem dX11_parts_32 : decode cX11_parts 32 = .ok (.aload_n 0, 1) := by decide +kernel
theorem dX11_parts_33 : decode cX11_parts 33 = .ok (.iload_n 3, 1) := by decide +kernel
theorem dX11_parts_34 : decode cX11_parts 34 = .ok (.iload_n 1, 1) := by decide +kernel
theorem dX11_parts_35 : decode cX11_parts 35 = .ok (.invokevirtual 157, 3) := by decide +kernel
theorem dX11_parts_38 : decode cX11_parts 38 = .ok (.ifCond .ne 6, 3) := by decide +kernel
theorem dX11_parts_41 : decode cX11_parts 41 = .ok (.goto 55, 3) := by decide +kernel
theorem dX11_parts_44 : decode cX11_parts 44 = .ok (.aload_n 0, 1) := by decide +kernel
theorem dX11_parts_45 : decode cX11_parts 45 = .ok (.getfield 68, 3) := by decide +kernel
theorem dX11_parts_48 : decode cX11_parts 48 = .ok (.aload_n 0, 1) := by decide +kernel
theorem dX11_parts_49 : decode cX11_parts 49 = .ok (.getfield 154, 3) := by decide +kernel
theorem dX11_parts_52 : decode cX11_parts 52 = .ok (.iload_n 2, 1) := by decide +kernel
theorem dX11_parts_53 : decode cX11_parts 53 = .ok (.iastore, 1) := by decide +kernel
theorem dX11_parts_54 : decode cX11_parts 54 = .ok (.aload_n 0, 1) := by decide +kernel
theorem dX11_parts_55 : decode cX11_parts 55 = .ok (.getfield 71, 3) := by decide +kernel
theorem dX11_parts_58 : decode cX11_parts 58 = .ok (.aload_n 0, 1) := by decide +kernel
theorem dX11_parts_59 : decode cX11_parts 59 = .ok (.getfield 154, 3) := by decide +kernel
theorem dX11_parts_62 : decode cX11_parts 62 = .ok (.aload_n 0, 1) := by decide +kernel
theorem dX11_parts_63 : decode cX11_parts 63 = .ok (.getfield 53, 3) := by decide +kernel
theorem dX11_parts_66 : decode cX11_parts 66 = .ok (.iload_n 3, 1) := by decide +kernel
theorem dX11_parts_67 : decode cX11_parts 67 = .ok (.iaload, 1) := by decide +kernel
theorem dX11_parts_68 : decode cX11_parts 68 = .ok (.iastore, 1) := by decide +kernel
theorem dX11_parts_69 : decode cX11_parts 69 = .ok (.aload_n 0, 1) := by decide +kernel
theorem dX11_parts_70 : decode cX11_parts 70 = .ok (.getfield 74, 3) := by decide +kernel
theorem dX11_parts_73 : decode cX11_parts 73 = .ok (.aload_n 0, 1) := by decide +kernel
theorem dX11_parts_74 : decode cX11_parts 74 = .ok (.getfield 154, 3) := by decide +kernel
theorem dX11_parts_77 : decode cX11_parts 77 = .ok (.iload_n 3, 1) := by decide +kernel
theorem dX11_parts_78 : decode cX11_parts 78 = .ok (.iastore, 1) := by decide +kernel
theorem dX11_parts_79 : decode cX11_parts 79 = .ok (.aload_n 0, 1) := by decide +kernel
theorem dX11_parts_80 : decode cX11_parts 80 = .ok (.aload_n 0, 1) := by decide +kernel
theorem dX11_parts_81 : decode cX11_parts 81 = .ok (.getfield 154, 3) := by decide +kernel
theorem dX11_parts_84 : decode cX11_parts 84 = .ok (.iconst 1, 1) := by decide +kernel
theorem dX11_parts_85 : decode cX11_parts 85 = .ok (.iadd, 1) := by decide +kernel
theorem dX11_parts_86 : decode cX11_parts 86 = .ok (.putfield 154, 3) := by decide +kernel
theorem dX11_parts_89 : decode cX11_parts 89 = .ok (.aload_n 0, 1) := by decide +kernel
theorem dX11_parts_90 : decode cX11_parts 90 = .ok (.getfield 53, 3) := by decide +kernel
theorem dX11_parts_93 : decode cX11_parts 93 = .ok (.iload_n 3, 1) := by decide +kernel
theorem dX11_parts_94 : decode cX11_parts 94 = .ok (.iaload, 1) := by decide +kernel
theorem dX11_parts_95 : decode cX11_parts 95 = .ok (.istore_n 2, 1) := by decide +kernel
theorem dX11_parts_96 : decode cX11_parts 96 = .ok (.iinc 3 1, 3) := by decide +kernel
theorem dX11_parts_99 : decode cX11_parts 99 = .ok (.goto (-90), 3) := by decide +kernel
theorem dX11_parts_102 : decode cX11_parts 102 = .ok (.iload_n 2, 1) := by decide +kernel
theorem dX11_parts_103 : decode cX11_parts 103 = .ok (.aload_n 0, 1) := by decide +kernel
theorem dX11_parts_104 : decode cX11_parts 104 = .ok (.getfield 121, 3) := by decide +kernel
theorem dX11_parts_107 : decode cX11_parts 107 = .ok (.if_icmp .ne 4, 3) := by decide +kernel
theorem dX11_parts_110 : decode cX11_parts 110 = .ok (.return_, 1) := by decide +kernel
theorem dX11_parts_111 : decode cX11_parts 111 = .ok (.aload_n 0, 1) := by decide +kernel
theorem dX11_parts_112 : decode cX11_parts 112 = .ok (.getfield 68, 3) := by decide +kernel
theorem dX11_parts_115 : decode cX11_parts 115 = .ok (.aload_n 0, 1) := by decide +kernel
theorem dX11_parts_116 : decode cX11_parts 116 = .ok (.getfield 154, 3) := by decide +kernel
theorem dX11_parts_119 : decode cX11_parts 119 = .ok (.iload_n 2, 1) := by decide +kernel
theorem dX11_parts_120 : decode cX11_parts 120 = .ok (.iastore, 1) := by decide +kernel
theorem dX11_parts_121 : decode cX11_parts 121 = .ok (.aload_n 0, 1) := by decide +kernel
theorem dX11_parts_122 : decode cX11_parts 122 = .ok (.getfield 71, 3) := by decide +kernel
theorem dX11_parts_125 : decode cX11_parts 125 = .ok (.aload_n 0, 1) := by decide +kernel
theorem dX11_parts_126 : decode cX11_parts 126 = .ok (.getfield 154, 3) := by decide +kernel
theorem dX11_parts_129 : decode cX11_parts 129 = .ok (.aload_n 0, 1) := by decide +kernel
theorem dX11_parts_130 : decode cX11_parts 130 = .ok (.getfield 121, 3) := by decide +kernel
theorem dX11_parts_133 : decode cX11_parts 133 = .ok (.iastore, 1) := by decide +kernel
theorem dX11_parts_134 : decode cX11_parts 134 = .ok (.aload_n 0, 1) := by decide +kernel
theorem dX11_parts_135 : decode cX11_parts 135 = .ok (.getfield 74, 3) := by decide +kernel
theorem dX11_parts_138 : decode cX11_parts 138 = .ok (.aload_n 0, 1) := by decide +kernel
theorem dX11_parts_139 : decode cX11_parts 139 = .ok (.getfield 154, 3) := by decide +kernel
theorem dX11_parts_142 : decode cX11_parts 142 = .ok (.iconst (-1), 1) := by decide +kernel
theorem dX11_parts_143 : decode cX11_parts 143 = .ok (.iastore, 1) := by decide +kernel
theorem dX11_parts_144 : decode cX11_parts 144 = .ok (.aload_n 0, 1) := by decide +kernel
theorem dX11_parts_145 : decode cX11_parts 145 = .ok (.aload_n 0, 1) := by decide +kernel
theorem dX11_parts_146 : decode cX11_parts 146 = .ok (.getfield 154, 3) := by decide +kernel
theorem dX11_parts_149 : decode cX11_parts 149 = .ok (.iconst 1, 1) := by decide +kernel
theorem dX11_parts_150 : decode cX11_parts 150 = .ok (.iadd, 1) := by decide +kernel
theorem dX11_parts_151 : decode cX11_parts 151 = .ok (.putfield 154, 3) := by decide +kernel
theorem dX11_parts_154 : decode cX11_parts 154 = .ok (.return_, 1) := by decide +kernel
theorem dX11_overOf_0 : decode cX11_overOf 0 = .ok (.aload_n 0, 1) := by decide +kernel
theorem dX11_overOf_1 : decode cX11_overOf 1 = .ok (.aload_n 0, 1) := by decide +kernel
theorem dX11_overOf_2 : decode cX11_overOf 2 = .ok (.getfield 68, 3) := by decide +kernel
theorem dX11_overOf_5 : decode cX11_overOf 5 = .ok (.iload_n 1, 1) := by decide +kernel
theorem dX11_overOf_6 : decode cX11_overOf 6 = .ok (.iaload, 1) := by decide +kernel
theorem dX11_overOf_7 : decode cX11_overOf 7 = .ok (.aload_n 0, 1) := by decide +kernel
theorem dX11_overOf_8 : decode cX11_overOf 8 = .ok (.getfield 71, 3) := by decide +kernel
theorem dX11_overOf_11 : decode cX11_overOf 11 = .ok (.iload_n 1, 1) := by decide +kernel
theorem dX11_overOf_12 : decode cX11_overOf 12 = .ok (.iaload, 1) := by decide +kernel
theorem dX11_overOf_13 : decode cX11_overOf 13 = .ok (.invokevirtual 160, 3) := by decide +kernel
theorem dX11_overOf_16 : decode cX11_overOf 16 = .ok (.aload_n 0, 1) := by decide +kernel
theorem dX11_overOf_17 : decode cX11_overOf 17 = .ok (.getfield 13, 3) := by decide +kernel
theorem dX11_overOf_20 : decode cX11_overOf 20 = .ok (.iload_n 2, 1) := by decide +kernel
theorem dX11_overOf_21 : decode cX11_overOf 21 = .ok (.ifCond .eq 7, 3) := by decide +kernel
theorem dX11_overOf_24 : decode cX11_overOf 24 = .ok (.iconst 5, 1) := by decide +kernel
theorem dX11_overOf_25 : decode cX11_overOf 25 = .ok (.goto 4, 3) := by decide +kernel
theorem dX11_overOf_28 : decode cX11_overOf 28 = .ok (.iconst 4, 1) := by decide +kernel
theorem dX11_overOf_29 : decode cX11_overOf 29 = .ok (.iaload, 1) := by decide +kernel
theorem dX11_overOf_30 : decode cX11_overOf 30 = .ok (.isub, 1) := by decide +kernel
theorem dX11_overOf_31 : decode cX11_overOf 31 = .ok (.istore_n 3, 1) := by decide +kernel
theorem dX11_overOf_32 : decode cX11_overOf 32 = .ok (.iload_n 3, 1) := by decide +kernel
theorem dX11_overOf_33 : decode cX11_overOf 33 = .ok (.ifCond .le 7, 3) := by decide +kernel
theorem dX11_overOf_36 : decode cX11_overOf 36 = .ok (.iload_n 3, 1) := by decide +kernel
theorem dX11_overOf_37 : decode cX11_overOf 37 = .ok (.goto 4, 3) := by decide +kernel
theorem dX11_overOf_40 : decode cX11_overOf 40 = .ok (.iconst 0, 1) := by decide +kernel
theorem dX11_overOf_41 : decode cX11_overOf 41 = .ok (.ireturn, 1) := by decide +kernel
theorem dX11_lateOf_0 : decode cX11_lateOf 0 = .ok (.aload_n 0, 1) := by decide +kernel
theorem dX11_lateOf_1 : decode cX11_lateOf 1 = .ok (.getfield 74, 3) := by decide +kernel
theorem dX11_lateOf_4 : decode cX11_lateOf 4 = .ok (.iload_n 1, 1) := by decide +kernel
theorem dX11_lateOf_5 : decode cX11_lateOf 5 = .ok (.iaload, 1) := by decide +kernel
theorem dX11_lateOf_6 : decode cX11_lateOf 6 = .ok (.istore_n 2, 1) := by decide +kernel
theorem dX11_lateOf_7 : decode cX11_lateOf 7 = .ok (.iload_n 2, 1) := by decide +kernel
theorem dX11_lateOf_8 : decode cX11_lateOf 8 = .ok (.iconst (-1), 1) := by decide +kernel
theorem dX11_lateOf_9 : decode cX11_lateOf 9 = .ok (.if_icmp .ne 10, 3) := by decide +kernel
theorem dX11_lateOf_12 : decode cX11_lateOf 12 = .ok (.aload_n 0, 1) := by decide +kernel
theorem dX11_lateOf_13 : decode cX11_lateOf 13 = .ok (.getfield 121, 3) := by decide +kernel
theorem dX11_lateOf_16 : decode cX11_lateOf 16 = .ok (.goto 42, 3) := by decide +kernel
theorem dX11_lateOf_19 : decode cX11_lateOf 19 = .ok (.aload_n 0, 1) := by decide +kernel
theorem dX11_lateOf_20 : decode cX11_lateOf 20 = .ok (.getfield 50, 3) := by decide +kernel
theorem dX11_lateOf_23 : decode cX11_lateOf 23 = .ok (.iload_n 2, 1) := by decide +kernel
theorem dX11_lateOf_24 : decode cX11_lateOf 24 = .ok (.iaload, 1) := by decide +kernel
theorem dX11_lateOf_25 : decode cX11_lateOf 25 = .ok (.aload_n 0, 1) := by decide +kernel
theorem dX11_lateOf_26 : decode cX11_lateOf 26 = .ok (.iload_n 2, 1) := by decide +kernel
theorem dX11_lateOf_27 : decode cX11_lateOf 27 = .ok (.invokevirtual 141, 3) := by decide +kernel
theorem dX11_lateOf_30 : decode cX11_lateOf 30 = .ok (.aload_n 0, 1) := by decide +kernel
theorem dX11_lateOf_31 : decode cX11_lateOf 31 = .ok (.getfield 13, 3) := by decide +kernel
theorem dX11_lateOf_34 : decode cX11_lateOf 34 = .ok (.bipush 7, 2) := by decide +kernel
theorem dX11_lateOf_36 : decode cX11_lateOf 36 = .ok (.iaload, 1) := by decide +kernel
theorem dX11_lateOf_37 : decode cX11_lateOf 37 = .ok (.if_icmp .lt 13, 3) := by decide +kernel
theorem dX11_lateOf_40 : decode cX11_lateOf 40 = .ok (.aload_n 0, 1) := by decide +kernel
theorem dX11_lateOf_41 : decode cX11_lateOf 41 = .ok (.getfield 13, 3) := by decide +kernel
theorem dX11_lateOf_44 : decode cX11_lateOf 44 = .ok (.bipush 7, 2) := by decide +kernel
theorem dX11_lateOf_46 : decode cX11_lateOf 46 = .ok (.iaload, 1) := by decide +kernel
theorem dX11_lateOf_47 : decode cX11_lateOf 47 = .ok (.goto 10, 3) := by decide +kernel
theorem dX11_lateOf_50 : decode cX11_lateOf 50 = .ok (.aload_n 0, 1) := by decide +kernel
theorem dX11_lateOf_51 : decode cX11_lateOf 51 = .ok (.getfield 13, 3) := by decide +kernel
theorem dX11_lateOf_54 : decode cX11_lateOf 54 = .ok (.bipush 8, 2) := by decide +kernel
theorem dX11_lateOf_56 : decode cX11_lateOf 56 = .ok (.iaload, 1) := by decide +kernel
theorem dX11_lateOf_57 : decode cX11_lateOf 57 = .ok (.iadd, 1) := by decide +kernel
theorem dX11_lateOf_58 : decode cX11_lateOf 58 = .ok (.istore_n 3, 1) := by decide +kernel
theorem dX11_lateOf_59 : decode cX11_lateOf 59 = .ok (.iload_n 3, 1) := by decide +kernel
theorem dX11_lateOf_60 : decode cX11_lateOf 60 = .ok (.aload_n 0, 1) := by decide +kernel
theorem dX11_lateOf_61 : decode cX11_lateOf 61 = .ok (.getfield 68, 3) := by decide +kernel
theorem dX11_lateOf_64 : decode cX11_lateOf 64 = .ok (.iload_n 1, 1) := by decide +kernel
theorem dX11_lateOf_65 : decode cX11_lateOf 65 = .ok (.iaload, 1) := by decide +kernel
theorem dX11_lateOf_66 : decode cX11_lateOf 66 = .ok (.isub, 1) := by decide +kernel
theorem dX11_lateOf_67 : decode cX11_lateOf 67 = .ok (.sipush 1440, 3) := by decide +kernel
theorem dX11_lateOf_70 : decode cX11_lateOf 70 = .ok (.isub, 1) := by decide +kernel
theorem dX11_lateOf_71 : decode cX11_lateOf 71 = .ok (.istore 4, 2) := by decide +kernel
theorem dX11_lateOf_73 : decode cX11_lateOf 73 = .ok (.iload 4, 2) := by decide +kernel
theorem dX11_lateOf_75 : decode cX11_lateOf 75 = .ok (.ifCond .le 8, 3) := by decide +kernel
theorem dX11_lateOf_78 : decode cX11_lateOf 78 = .ok (.iload 4, 2) := by decide +kernel
theorem dX11_lateOf_80 : decode cX11_lateOf 80 = .ok (.goto 4, 3) := by decide +kernel
theorem dX11_lateOf_83 : decode cX11_lateOf 83 = .ok (.iconst 0, 1) := by decide +kernel
theorem dX11_lateOf_84 : decode cX11_lateOf 84 = .ok (.ireturn, 1) := by decide +kernel
theorem dX11_extendsDays_0 : decode cX11_extendsDays 0 = .ok (.aload_n 0, 1) := by decide +kernel
theorem dX11_extendsDays_1 : decode cX11_extendsDays 1 = .ok (.iconst 0, 1) := by decide +kernel
theorem dX11_extendsDays_2 : decode cX11_extendsDays 2 = .ok (.putfield 164, 3) := by decide +kernel
theorem dX11_extendsDays_5 : decode cX11_extendsDays 5 = .ok (.iconst 0, 1) := by decide +kernel
theorem dX11_extendsDays_6 : decode cX11_extendsDays 6 = .ok (.istore_n 1, 1) := by decide +kernel
theorem dX11_extendsDays_7 : decode cX11_extendsDays 7 = .ok (.iload_n 1, 1) := by decide +kernel
theorem dX11_extendsDays_8 : decode cX11_extendsDays 8 = .ok (.aload_n 0, 1) := by decide +kernel
theorem dX11_extendsDays_9 : decode cX11_extendsDays 9 = .ok (.getfield 154, 3) := by decide +kernel
theorem dX11_extendsDays_12 : decode cX11_extendsDays 12 = .ok (.if_icmp .ge 16, 3) := by decide +kernel
theorem dX11_extendsDays_15 : decode cX11_extendsDays 15 = .ok (.aload_n 0, 1) := by decide +kernel
theorem dX11_extendsDays_16 : decode cX11_extendsDays 16 = .ok (.getfield 77, 3) := by decide +kernel
theorem dX11_extendsDays_19 : decode cX11_extendsDays 19 = .ok (.iload_n 1, 1) := by decide +kernel
theorem dX11_extendsDays_20 : decode cX11_extendsDays 20 = .ok (.iconst 0, 1) := by decide +kernel
theorem dX11_extendsDays_21 : decode cX11_extendsDays 21 = .ok (.bastore, 1) := by decide +kernel
theorem dX11_extendsDays_22 : decode cX11_extendsDays 22 = .ok (.iinc 1 1, 3) := by decide +kernel
theorem dX11_extendsDays_25 : decode cX11_extendsDays 25 = .ok (.goto (-18), 3) := by decide +kernel
theorem dX11_extendsDays_28 : decode cX11_extendsDays 28 = .ok (.iconst 0, 1) := by decide +kernel
theorem dX11_extendsDays_29 : decode cX11_extendsDays 29 = .ok (.istore_n 1, 1) := by decide +kernel
theorem dX11_extendsDays_30 : decode cX11_extendsDays 30 = .ok (.iload_n 1, 1) := by decide +kernel
theorem dX11_extendsDays_31 : decode cX11_extendsDays 31 = .ok (.iconst 2, 1) := by decide +kernel
theorem dX11_extendsDays_32 : decode cX11_extendsDays 32 = .ok (.if_icmp .ge 155, 3) := by decide +kernel
theorem dX11_extendsDays_35 : decode cX11_extendsDays 35 = .ok (.iconst 1, 1) := by decide +kernel
theorem dX11_extendsDays_36 : decode cX11_extendsDays 36 = .ok (.istore_n 2, 1) := by decide +kernel
theorem dX11_extendsDays_37 : decode cX11_extendsDays 37 = .ok (.iconst 0, 1) := by decide +kernel
theorem dX11_extendsDays_38 : decode cX11_extendsDays 38 = .ok (.istore_n 3, 1) := by decide +kernel
theorem dX11_extendsDays_39 : decode cX11_extendsDays 39 = .ok (.iload_n 3, 1) := by decide +kernel
theorem dX11_extendsDays_40 : decode cX11_extendsDays 40 = .ok (.aload_n 0, 1) := by decide +kernel
theorem dX11_extendsDays_41 : decode cX11_extendsDays 41 = .ok (.getfield 13, 3) := by decide +kernel
theorem dX11_extendsDays_44 : decode cX11_extendsDays 44 = .ok (.bipush 6, 2) := by decide +kernel
theorem dX11_extendsDays_46 : decode cX11_extendsDays 46 = .ok (.iaload, 1) := by decide +kernel
theorem dX11_extendsDays_47 : decode cX11_extendsDays 47 = .ok (.if_icmp .ge 134, 3) := by decide +kernel
theorem dX11_extendsDays_50 : decode cX11_extendsDays 50 = .ok (.iload_n 2, 1) := by decide +kernel
theorem dX11_extendsDays_51 : decode cX11_extendsDays 51 = .ok (.ifCond .eq 130, 3) := by decide +kernel
theorem dX11_extendsDays_54 : decode cX11_extendsDays 54 = .ok (.iconst (-1), 1) := by decide +kernel
theorem dX11_extendsDays_55 : decode cX11_extendsDays 55 = .ok (.istore 4, 2) := by decide +kernel
theorem dX11_extendsDays_57 : decode cX11_extendsDays 57 = .ok (.iconst 0, 1) := by decide +kernel
theorem dX11_extendsDays_58 : decode cX11_extendsDays 58 = .ok (.istore 5, 2) := by decide +kernel
theorem dX11_extendsDays_60 : decode cX11_extendsDays 60 = .ok (.iconst 0, 1) := by decide +kernel
theorem dX11_extendsDays_61 : decode cX11_extendsDays 61 = .ok (.istore 6, 2) := by decide +kernel
theorem dX11_extendsDays_63 : decode cX11_extendsDays 63 = .ok (.iload 6, 2) := by decide +kernel
theorem dX11_extendsDays_65 : decode cX11_extendsDays 65 = .ok (.aload_n 0, 1) := by decide +kernel
theorem dX11_extendsDays_66 : decode cX11_extendsDays 66 = .ok (.getfield 154, 3) := by decide +kernel
theorem dX11_extendsDays_69 : decode cX11_extendsDays 69 = .ok (.if_icmp .ge 69, 3) := by decide +kernel
theorem dX11_extendsDays_72 : decode cX11_extendsDays 72 = .ok (.aload_n 0, 1) := by decide +kernel
theorem dX11_extendsDays_73 : decode cX11_extendsDays 73 = .ok (.iload 6, 2) := by decide +kernel
theorem dX11_extendsDays_75 : decode cX11_extendsDays 75 = .ok (.iconst 0, 1) := by decide +kernel
theorem dX11_extendsDays_76 : decode cX11_extendsDays 76 = .ok (.invokevirtual 167, 3) := by decide +kernel
theorem dX11_extendsDays_79 : decode cX11_extendsDays 79 = .ok (.aload_n 0, 1) := by decide +kernel
theorem dX11_extendsDays_80 : decode cX11_extendsDays 80 = .ok (.iload 6, 2) := by decide +kernel
theorem dX11_extendsDays_82 : decode cX11_extendsDays 82 = .ok (.iconst 1, 1) := by decide +kernel
theorem dX11_extendsDays_83 : decode cX11_extendsDays 83 = .ok (.invokevirtual 167, 3) := by decide +kernel
theorem dX11_extendsDays_86 : decode cX11_extendsDays 86 = .ok (.isub, 1) := by decide +kernel
theorem dX11_extendsDays_87 : decode cX11_extendsDays 87 = .ok (.istore 7, 2) := by decide +kernel
theorem dX11_extendsDays_89 : decode cX11_extendsDays 89 = .ok (.aload_n 0, 1) := by decide +kernel
theorem dX11_extendsDays_90 : decode cX11_extendsDays 90 = .ok (.getfield 77, 3) := by decide +kernel
theorem dX11_extendsDays_93 : decode cX11_extendsDays 93 = .ok (.iload 6, 2) := by decide +kernel
theorem dX11_extendsDays_95 : decode cX11_extendsDays 95 = .ok (.baload, 1) := by decide +kernel
theorem dX11_extendsDays_96 : decode cX11_extendsDays 96 = .ok (.ifCond .ne 36, 3) := by decide +kernel
theorem dX11_extendsDays_99 : decode cX11_extendsDays 99 = .ok (.aload_n 0, 1) := by decide +kernel
theorem dX11_extendsDays_100 : decode cX11_extendsDays 100 = .ok (.getfield 68, 3) := by decide +kernel
theorem dX11_extendsDays_103 : decode cX11_extendsDays 103 = .ok (.iload 6, 2) := by decide +kernel
theorem dX11_extendsDays_105 : decode cX11_extendsDays 105 = .ok (.iaload, 1) := by decide +kernel
theorem dX11_extendsDays_106 : decode cX11_extendsDays 106 = .ok (.sipush 10080, 3) := by decide +kernel
theorem dX11_extendsDays_109 : decode cX11_extendsDays 109 = .ok (.idiv, 1) := by decide +kernel
theorem dX11_extendsDays_110 : decode cX11_extendsDays 110 = .ok (.iload_n 1, 1) := by decide +kernel
theorem dX11_extendsDays_111 : decode cX11_extendsDays 111 = .ok (.if_icmp .ne 21, 3) := by decide +kernel
theorem dX11_extendsDays_114 : decode cX11_extendsDays 114 = .ok (.iload 7, 2) := by decide +kernel
theorem dX11_extendsDays_116 : decode cX11_extendsDays 116 = .ok (.iload 5, 2) := by decide +kernel
theorem dX11_extendsDays_118 : decode cX11_extendsDays 118 = .ok (.if_icmp .gt 6, 3) := by decide +kernel
theorem dX11_extendsDays_121 : decode cX11_extendsDays 121 = .ok (.goto 11, 3) := by decide +kernel
theorem dX11_extendsDays_124 : decode cX11_extendsDays 124 = .ok (.iload 6, 2) := by decide +kernel
theorem dX11_extendsDays_126 : decode cX11_extendsDays 126 = .ok (.istore 4, 2) := by decide +kernel
theorem dX11_extendsDays_128 : decode cX11_extendsDays 128 = .ok (.iload 7, 2) := by decide +kernel
theorem dX11_extendsDays_130 : decode cX11_extendsDays 130 = .ok (.istore 5, 2) := by decide +kernel
theorem dX11_extendsDays_132 : decode cX11_extendsDays 132 = .ok (.iinc 6 1, 3) := by decide +kernel
theorem dX11_extendsDays_135 : decode cX11_extendsDays 135 = .ok (.goto (-72), 3) := by decide +kernel
theorem dX11_extendsDays_138 : decode cX11_extendsDays 138 = .ok (.iload 4, 2) := by decide +kernel
theorem dX11_extendsDays_140 : decode cX11_extendsDays 140 = .ok (.iconst (-1), 1) := by decide +kernel
theorem dX11_extendsDays_141 : decode cX11_extendsDays 141 = .ok (.if_icmp .eq 7, 3) := by decide +kernel
theorem dX11_extendsDays_144 : decode cX11_extendsDays 144 = .ok (.iconst 1, 1) := by decide +kernel
theorem dX11_extendsDays_145 : decode cX11_extendsDays 145 = .ok (.goto 4, 3) := by decide +kernel
theorem dX11_extendsDays_148 : decode cX11_extendsDays 148 = .ok (.iconst 0, 1) := by decide +kernel
theorem dX11_extendsDays_149 : decode cX11_extendsDays 149 = .ok (.istore_n 2, 1) := by decide +kernel
theorem dX11_extendsDays_150 : decode cX11_extendsDays 150 = .ok (.iload_n 2, 1) := by decide +kernel
theorem dX11_extendsDays_151 : decode cX11_extendsDays 151 = .ok (.ifCond .ne 6, 3) := by decide +kernel
theorem dX11_extendsDays_154 : decode cX11_extendsDays 154 = .ok (.goto 21, 3) := by decide +kernel
theorem dX11_extendsDays_157 : decode cX11_extendsDays 157 = .ok (.aload_n 0, 1) := by decide +kernel
theorem dX11_extendsDays_158 : decode cX11_extendsDays 158 = .ok (.getfield 77, 3) := by decide +kernel
theorem dX11_extendsDays_161 : decode cX11_extendsDays 161 = .ok (.iload 4, 2) := by decide +kernel
theorem dX11_extendsDays_163 : decode cX11_extendsDays 163 = .ok (.iconst 1, 1) := by decide +kernel
theorem dX11_extendsDays_164 : decode cX11_extendsDays 164 = .ok (.bastore, 1) := by decide +kernel
theorem dX11_extendsDays_165 : decode cX11_extendsDays 165 = .ok (.aload_n 0, 1) := by decide +kernel
theorem dX11_extendsDays_166 : decode cX11_extendsDays 166 = .ok (.aload_n 0, 1) := by decide +kernel
theorem dX11_extendsDays_167 : decode cX11_extendsDays 167 = .ok (.getfield 164, 3) := by decide +kernel
theorem dX11_extendsDays_170 : decode cX11_extendsDays 170 = .ok (.iconst 1, 1) := by decide +kernel
theorem dX11_extendsDays_171 : decode cX11_extendsDays 171 = .ok (.iadd, 1) := by decide +kernel
theorem dX11_extendsDays_172 : decode cX11_extendsDays 172 = .ok (.putfield 164, 3) := by decide +kernel
theorem dX11_extendsDays_175 : decode cX11_extendsDays 175 = .ok (.iinc 3 1, 3) := by decide +kernel
theorem dX11_extendsDays_178 : decode cX11_extendsDays 178 = .ok (.goto (-139), 3) := by decide +kernel
theorem dX11_extendsDays_181 : decode cX11_extendsDays 181 = .ok (.iinc 1 1, 3) := by decide +kernel
theorem dX11_extendsDays_184 : decode cX11_extendsDays 184 = .ok (.goto (-154), 3) := by decide +kernel
theorem dX11_extendsDays_187 : decode cX11_extendsDays 187 = .ok (.return_, 1) := by decide +kernel
theorem dX11_reckons_0 : decode cX11_reckons 0 = .ok (.aload_n 0, 1) := by decide +kernel
theorem dX11_reckons_1 : decode cX11_reckons 1 = .ok (.iload_n 1, 1) := by decide +kernel
theorem dX11_reckons_2 : decode cX11_reckons 2 = .ok (.invokevirtual 171, 3) := by decide +kernel
theorem dX11_reckons_5 : decode cX11_reckons 5 = .ok (.aload_n 0, 1) := by decide +kernel
theorem dX11_reckons_6 : decode cX11_reckons 6 = .ok (.invokevirtual 174, 3) := by decide +kernel
theorem dX11_reckons_9 : decode cX11_reckons 9 = .ok (.aload_n 0, 1) := by decide +kernel
theorem dX11_reckons_10 : decode cX11_reckons 10 = .ok (.iconst 0, 1) := by decide +kernel
theorem dX11_reckons_11 : decode cX11_reckons 11 = .ok (.putfield 177, 3) := by decide +kernel
theorem dX11_reckons_14 : decode cX11_reckons 14 = .ok (.iconst 0, 1) := by decide +kernel
theorem dX11_reckons_15 : decode cX11_reckons 15 = .ok (.istore_n 2, 1) := by decide +kernel
theorem dX11_reckons_16 : decode cX11_reckons 16 = .ok (.iload_n 2, 1) := by decide +kernel
theorem dX11_reckons_17 : decode cX11_reckons 17 = .ok (.aload_n 0, 1) := by decide +kernel
theorem dX11_reckons_18 : decode cX11_reckons 18 = .ok (.getfield 154, 3) := by decide +kernel
theorem dX11_reckons_21 : decode cX11_reckons 21 = .ok (.if_icmp .ge 35, 3) := by decide +kernel
theorem dX11_reckons_24 : decode cX11_reckons 24 = .ok (.aload_n 0, 1) := by decide +kernel
theorem dX11_reckons_25 : decode cX11_reckons 25 = .ok (.aload_n 0, 1) := by decide +kernel
theorem dX11_reckons_26 : decode cX11_reckons 26 = .ok (.getfield 177, 3) := by decide +kernel
theorem dX11_reckons_29 : decode cX11_reckons 29 = .ok (.aload_n 0, 1) := by decide +kernel
theorem dX11_reckons_30 : decode cX11_reckons 30 = .ok (.iload_n 2, 1) := by decide +kernel
theorem dX11_reckons_31 : decode cX11_reckons 31 = .ok (.aload_n 0, 1) := by decide +kernel
theorem dX11_reckons_32 : decode cX11_reckons 32 = .ok (.getfield 77, 3) := by decide +kernel
theorem dX11_reckons_35 : decode cX11_reckons 35 = .ok (.iload_n 2, 1) := by decide +kernel
theorem dX11_reckons_36 : decode cX11_reckons 36 = .ok (.baload, 1) := by decide +kernel
theorem dX11_reckons_37 : decode cX11_reckons 37 = .ok (.invokevirtual 167, 3) := by decide +kernel
theorem dX11_reckons_40 : decode cX11_reckons 40 = .ok (.iadd, 1) := by decide +kernel
theorem dX11_reckons_41 : decode cX11_reckons 41 = .ok (.aload_n 0, 1) := by decide +kernel
theorem dX11_reckons_42 : decode cX11_reckons 42 = .ok (.iload_n 2, 1) := by decide +kernel
theorem dX11_reckons_43 : decode cX11_reckons 43 = .ok (.invokevirtual 180, 3) := by decide +kernel
theorem dX11_reckons_46 : decode cX11_reckons 46 = .ok (.iadd, 1) := by decide +kernel
theorem dX11_reckons_47 : decode cX11_reckons 47 = .ok (.putfield 177, 3) := by decide +kernel
theorem dX11_reckons_50 : decode cX11_reckons 50 = .ok (.iinc 2 1, 3) := by decide +kernel
theorem dX11_reckons_53 : decode cX11_reckons 53 = .ok (.goto (-37), 3) := by decide +kernel
theorem dX11_reckons_56 : decode cX11_reckons 56 = .ok (.return_, 1) := by decide +kernel
theorem dX11_chooses_0 : decode cX11_chooses 0 = .ok (.aload_n 0, 1) := by decide +kernel
theorem dX11_chooses_1 : decode cX11_chooses 1 = .ok (.invokevirtual 183, 3) := by decide +kernel
theorem dX11_chooses_4 : decode cX11_chooses 4 = .ok (.iconst 0, 1) := by decide +kernel
theorem dX11_chooses_5 : decode cX11_chooses 5 = .ok (.istore_n 1, 1) := by decide +kernel
theorem dX11_chooses_6 : decode cX11_chooses 6 = .ok (.aload_n 0, 1) := by decide +kernel
theorem dX11_chooses_7 : decode cX11_chooses 7 = .ok (.iconst 0, 1) := by decide +kernel
theorem dX11_chooses_8 : decode cX11_chooses 8 = .ok (.invokevirtual 186, 3) := by decide +kernel
theorem dX11_chooses_11 : decode cX11_chooses 11 = .ok (.aload_n 0, 1) := by decide +kernel
theorem dX11_chooses_12 : decode cX11_chooses 12 = .ok (.getfield 177, 3) := by decide +kernel
theorem dX11_chooses_15 : decode cX11_chooses 15 = .ok (.istore_n 2, 1) := by decide +kernel
theorem dX11_chooses_16 : decode cX11_chooses 16 = .ok (.aload_n 0, 1) := by decide +kernel
theorem dX11_chooses_17 : decode cX11_chooses 17 = .ok (.getfield 164, 3) := by decide +kernel
theorem dX11_chooses_20 : decode cX11_chooses 20 = .ok (.istore_n 3, 1) := by decide +kernel
theorem dX11_chooses_21 : decode cX11_chooses 21 = .ok (.iconst 1, 1) := by decide +kernel
theorem dX11_chooses_22 : decode cX11_chooses 22 = .ok (.istore 4, 2) := by decide +kernel
theorem dX11_chooses_24 : decode cX11_chooses 24 = .ok (.iload 4, 2) := by decide +kernel
theorem dX11_chooses_26 : decode cX11_chooses 26 = .ok (.iconst 1, 1) := by decide +kernel
theorem dX11_chooses_27 : decode cX11_chooses 27 = .ok (.aload_n 0, 1) := by decide +kernel
theorem dX11_chooses_28 : decode cX11_chooses 28 = .ok (.getfield 151, 3) := by decide +kernel
theorem dX11_chooses_31 : decode cX11_chooses 31 = .ok (.ishl, 1) := by decide +kernel
theorem dX11_chooses_32 : decode cX11_chooses 32 = .ok (.if_icmp .ge 145, 3) := by decide +kernel
theorem dX11_chooses_35 : decode cX11_chooses 35 = .ok (.aload_n 0, 1) := by decide +kernel
theorem dX11_chooses_36 : decode cX11_chooses 36 = .ok (.iload 4, 2) := by decide +kernel
theorem dX11_chooses_38 : decode cX11_chooses 38 = .ok (.invokevirtual 189, 3) := by decide +kernel
theorem dX11_chooses_41 : decode cX11_chooses 41 = .ok (.ifCond .ne 6, 3) := by decide +kernel
theorem dX11_chooses_44 : decode cX11_chooses 44 = .ok (.goto 127, 3) := by decide +kernel
theorem dX11_chooses_47 : decode cX11_chooses 47 = .ok (.aload_n 0, 1) := by decide +kernel
theorem dX11_chooses_48 : decode cX11_chooses 48 = .ok (.iload 4, 2) := by decide +kernel
theorem dX11_chooses_50 : decode cX11_chooses 50 = .ok (.invokevirtual 186, 3) := by decide +kernel
theorem dX11_chooses_53 : decode cX11_chooses 53 = .ok (.aload_n 0, 1) := by decide +kernel
theorem dX11_chooses_54 : decode cX11_chooses 54 = .ok (.getfield 177, 3) := by decide +kernel
theorem dX11_chooses_57 : decode cX11_chooses 57 = .ok (.iload_n 2, 1) := by decide +kernel
theorem dX11_chooses_58 : decode cX11_chooses 58 = .ok (.if_icmp .ge 7, 3) := by decide +kernel
theorem dX11_chooses_61 : decode cX11_chooses 61 = .ok (.iconst 1, 1) := by decide +kernel
theorem dX11_chooses_62 : decode cX11_chooses 62 = .ok (.goto 4, 3) := by decide +kernel
theorem dX11_chooses_65 : decode cX11_chooses 65 = .ok (.iconst 0, 1) := by decide +kernel
theorem dX11_chooses_66 : decode cX11_chooses 66 = .ok (.istore 5, 2) := by decide +kernel
theorem dX11_chooses_68 : decode cX11_chooses 68 = .ok (.aload_n 0, 1) := by decide +kernel
theorem dX11_chooses_69 : decode cX11_chooses 69 = .ok (.getfield 177, 3) := by decide +kernel
theorem dX11_chooses_72 : decode cX11_chooses 72 = .ok (.iload_n 2, 1) := by decide +kernel
theorem dX11_chooses_73 : decode cX11_chooses 73 = .ok (.if_icmp .ne 37, 3) := by decide +kernel
theorem dX11_chooses_76 : decode cX11_chooses 76 = .ok (.iload 4, 2) := by decide +kernel
theorem dX11_chooses_78 : decode cX11_chooses 78 = .ok (.invokestatic 192, 3) := by decide +kernel
theorem dX11_chooses_81 : decode cX11_chooses 81 = .ok (.iload_n 1, 1) := by decide +kernel
theorem dX11_chooses_82 : decode cX11_chooses 82 = .ok (.invokestatic 192, 3) := by decide +kernel
theorem dX11_chooses_85 : decode cX11_chooses 85 = .ok (.if_icmp .eq 25, 3) := by decide +kernel
theorem dX11_chooses_88 : decode cX11_chooses 88 = .ok (.iload 4, 2) := by decide +kernel
theorem dX11_chooses_90 : decode cX11_chooses 90 = .ok (.invokestatic 192, 3) := by decide +kernel
theorem dX11_chooses_93 : decode cX11_chooses 93 = .ok (.iload_n 1, 1) := by decide +kernel
theorem dX11_chooses_94 : decode cX11_chooses 94 = .ok (.invokestatic 192, 3) := by decide +kernel
theorem dX11_chooses_97 : decode cX11_chooses 97 = .ok (.if_icmp .ge 7, 3) := by decide +kernel
theorem dX11_chooses_100 : decode cX11_chooses 100 = .ok (.iconst 1, 1) := by decide +kernel
theorem dX11_chooses_101 : decode cX11_chooses 101 = .ok (.goto 4, 3) := by decide +kernel
theorem dX11_chooses_104 : decode cX11_chooses 104 = .ok (.iconst 0, 1) := by decide +kernel
theorem dX11_chooses_105 : decode cX11_chooses 105 = .ok (.istore 5, 2) := by decide +kernel
theorem dX11_chooses_107 : decode cX11_chooses 107 = .ok (.goto 43, 3) := by decide +kernel
theorem dX11_chooses_110 : decode cX11_chooses 110 = .ok (.aload_n 0, 1) := by decide +kernel
theorem dX11_chooses_111 : decode cX11_chooses 111 = .ok (.getfield 177, 3) := by decide +kernel
theorem dX11_chooses_114 : decode cX11_chooses 114 = .ok (.iload_n 2, 1) := by decide +kernel
theorem dX11_chooses_115 : decode cX11_chooses 115 = .ok (.if_icmp .ne 35, 3) := by decide +kernel
theorem dX11_chooses_118 : decode cX11_chooses 118 = .ok (.aload_n 0, 1) := by decide +kernel
theorem dX11_chooses_119 : decode cX11_chooses 119 = .ok (.getfield 164, 3) := by decide +kernel
theorem dX11_chooses_122 : decode cX11_chooses 122 = .ok (.iload_n 3, 1) := by decide +kernel
theorem dX11_chooses_123 : decode cX11_chooses 123 = .ok (.if_icmp .eq 19, 3) := by decide +kernel
theorem dX11_chooses_126 : decode cX11_chooses 126 = .ok (.aload_n 0, 1) := by decide +kernel
theorem dX11_chooses_127 : decode cX11_chooses 127 = .ok (.getfield 164, 3) := by decide +kernel
theorem dX11_chooses_130 : decode cX11_chooses 130 = .ok (.iload_n 3, 1) := by decide +kernel
theorem dX11_chooses_131 : decode cX11_chooses 131 = .ok (.if_icmp .ge 7, 3) := by decide +kernel
theorem dX11_chooses_134 : decode cX11_chooses 134 = .ok (.iconst 1, 1) := by decide +kernel
theorem dX11_chooses_135 : decode cX11_chooses 135 = .ok (.goto 13, 3) := by decide +kernel
theorem dX11_chooses_138 : decode cX11_chooses 138 = .ok (.iconst 0, 1) := by decide +kernel
theorem dX11_chooses_139 : decode cX11_chooses 139 = .ok (.goto 9, 3) := by decide +kernel
theorem dX11_chooses_142 : decode cX11_chooses 142 = .ok (.iload 4, 2) := by decide +kernel
theorem dX11_chooses_144 : decode cX11_chooses 144 = .ok (.iload_n 1, 1) := by decide +kernel
theorem dX11_chooses_145 : decode cX11_chooses 145 = .ok (.invokestatic 195, 3) := by decide +kernel
theorem dX11_chooses_148 : decode cX11_chooses 148 = .ok (.istore 5, 2) := by decide +kernel
theorem dX11_chooses_150 : decode cX11_chooses 150 = .ok (.iload 5, 2) := by decide +kernel
theorem dX11_chooses_152 : decode cX11_chooses 152 = .ok (.ifCond .ne 6, 3) := by decide +kernel
theorem dX11_chooses_155 : decode cX11_chooses 155 = .ok (.goto 16, 3) := by decide +kernel
theorem dX11_chooses_158 : decode cX11_chooses 158 = .ok (.iload 4, 2) := by decide +kernel
theorem dX11_chooses_160 : decode cX11_chooses 160 = .ok (.istore_n 1, 1) := by decide +kernel
theorem dX11_chooses_161 : decode cX11_chooses 161 = .ok (.aload_n 0, 1) := by decide +kernel
theorem dX11_chooses_162 : decode cX11_chooses 162 = .ok (.getfield 177, 3) := by decide +kernel
theorem dX11_chooses_165 : decode cX11_chooses 165 = .ok (.istore_n 2, 1) := by decide +kernel
theorem dX11_chooses_166 : decode cX11_chooses 166 = .ok (.aload_n 0, 1) := by decide +kernel
theorem dX11_chooses_167 : decode cX11_chooses 167 = .ok (.getfield 164, 3) := by decide +kernel
theorem dX11_chooses_170 : decode cX11_chooses 170 = .ok (.istore_n 3, 1) := by decide +kernel
theorem dX11_chooses_171 : decode cX11_chooses 171 = .ok (.iinc 4 1, 3) := by decide +kernel
theorem dX11_chooses_174 : decode cX11_chooses 174 = .ok (.goto (-150), 3) := by decide +kernel
theorem dX11_chooses_177 : decode cX11_chooses 177 = .ok (.aload_n 0, 1) := by decide +kernel
theorem dX11_chooses_178 : decode cX11_chooses 178 = .ok (.iload_n 1, 1) := by decide +kernel
theorem dX11_chooses_179 : decode cX11_chooses 179 = .ok (.invokevirtual 186, 3) := by decide +kernel
theorem dX11_chooses_182 : decode cX11_chooses 182 = .ok (.return_, 1) := by decide +kernel
theorem dX11_isEarlier_0 : decode cX11_isEarlier 0 = .ok (.iconst 0, 1) := by decide +kernel
theorem dX11_isEarlier_1 : decode cX11_isEarlier 1 = .ok (.istore_n 2, 1) := by decide +kernel
theorem dX11_isEarlier_2 : decode cX11_isEarlier 2 = .ok (.iload_n 2, 1) := by decide +kernel
theorem dX11_isEarlier_3 : decode cX11_isEarlier 3 = .ok (.bipush 12, 2) := by decide +kernel
theorem dX11_isEarlier_5 : decode cX11_isEarlier 5 = .ok (.if_icmp .ge 23, 3) := by decide +kernel
theorem dX11_isEarlier_8 : decode cX11_isEarlier 8 = .ok (.iload_n 0, 1) := by decide +kernel
theorem dX11_isEarlier_9 : decode cX11_isEarlier 9 = .ok (.iload_n 2, 1) := by decide +kernel
theorem dX11_isEarlier_10 : decode cX11_isEarlier 10 = .ok (.ishr, 1) := by decide +kernel
theorem dX11_isEarlier_11 : decode cX11_isEarlier 11 = .ok (.iconst 1, 1) := by decide +kernel
theorem dX11_isEarlier_12 : decode cX11_isEarlier 12 = .ok (.iand, 1) := by decide +kernel
theorem dX11_isEarlier_13 : decode cX11_isEarlier 13 = .ok (.iload_n 1, 1) := by decide +kernel
theorem dX11_isEarlier_14 : decode cX11_isEarlier 14 = .ok (.iload_n 2, 1) := by decide +kernel
theorem dX11_isEarlier_15 : decode cX11_isEarlier 15 = .ok (.ishr, 1) := by decide +kernel
theorem dX11_isEarlier_16 : decode cX11_isEarlier 16 = .ok (.iconst 1, 1) := by decide +kernel
theorem dX11_isEarlier_17 : decode cX11_isEarlier 17 = .ok (.iand, 1) := by decide +kernel
theorem dX11_isEarlier_18 : decode cX11_isEarlier 18 = .ok (.if_icmp .ne 10, 3) := by decide +kernel
theorem dX11_isEarlier_21 : decode cX11_isEarlier 21 = .ok (.iload_n 2, 1) := by decide +kernel
theorem dX11_isEarlier_22 : decode cX11_isEarlier 22 = .ok (.iconst 1, 1) := by decide +kernel
theorem dX11_isEarlier_23 : decode cX11_isEarlier 23 = .ok (.iadd, 1) := by decide +kernel
theorem dX11_isEarlier_24 : decode cX11_isEarlier 24 = .ok (.istore_n 2, 1) := by decide +kernel
theorem dX11_isEarlier_25 : decode cX11_isEarlier 25 = .ok (.goto (-23), 3) := by decide +kernel
theorem dX11_isEarlier_28 : decode cX11_isEarlier 28 = .ok (.iload_n 2, 1) := by decide +kernel
theorem dX11_isEarlier_29 : decode cX11_isEarlier 29 = .ok (.bipush 12, 2) := by decide +kernel
theorem dX11_isEarlier_31 : decode cX11_isEarlier 31 = .ok (.if_icmp .ge 16, 3) := by decide +kernel
theorem dX11_isEarlier_34 : decode cX11_isEarlier 34 = .ok (.iload_n 0, 1) := by decide +kernel
theorem dX11_isEarlier_35 : decode cX11_isEarlier 35 = .ok (.iload_n 2, 1) := by decide +kernel
theorem dX11_isEarlier_36 : decode cX11_isEarlier 36 = .ok (.ishr, 1) := by decide +kernel
theorem dX11_isEarlier_37 : decode cX11_isEarlier 37 = .ok (.iconst 1, 1) := by decide +kernel
theorem dX11_isEarlier_38 : decode cX11_isEarlier 38 = .ok (.iand, 1) := by decide +kernel
theorem dX11_isEarlier_39 : decode cX11_isEarlier 39 = .ok (.iconst 1, 1) := by decide +kernel
theorem dX11_isEarlier_40 : decode cX11_isEarlier 40 = .ok (.if_icmp .ne 7, 3) := by decide +kernel
theorem dX11_isEarlier_43 : decode cX11_isEarlier 43 = .ok (.iconst 1, 1) := by decide +kernel
theorem dX11_isEarlier_44 : decode cX11_isEarlier 44 = .ok (.goto 4, 3) := by decide +kernel
theorem dX11_isEarlier_47 : decode cX11_isEarlier 47 = .ok (.iconst 0, 1) := by decide +kernel
theorem dX11_isEarlier_48 : decode cX11_isEarlier 48 = .ok (.ireturn, 1) := by decide +kernel
theorem dX11_breaksLaw_0 : decode cX11_breaksLaw 0 = .ok (.aload_n 0, 1) := by decide +kernel
theorem dX11_breaksLaw_1 : decode cX11_breaksLaw 1 = .ok (.iload_n 1, 1) := by decide +kernel
theorem dX11_breaksLaw_2 : decode cX11_breaksLaw 2 = .ok (.iload_n 2, 1) := by decide +kernel
theorem dX11_breaksLaw_3 : decode cX11_breaksLaw 3 = .ok (.invokevirtual 198, 3) := by decide +kernel
theorem dX11_breaksLaw_6 : decode cX11_breaksLaw 6 = .ok (.aload_n 0, 1) := by decide +kernel
theorem dX11_breaksLaw_7 : decode cX11_breaksLaw 7 = .ok (.iconst 0, 1) := by decide +kernel
theorem dX11_breaksLaw_8 : decode cX11_breaksLaw 8 = .ok (.putfield 131, 3) := by decide +kernel
theorem dX11_breaksLaw_11 : decode cX11_breaksLaw 11 = .ok (.aload_n 0, 1) := by decide +kernel
theorem dX11_breaksLaw_12 : decode cX11_breaksLaw 12 = .ok (.invokevirtual 202, 3) := by decide +kernel
theorem dX11_breaksLaw_15 : decode cX11_breaksLaw 15 = .ok (.aload_n 0, 1) := by decide +kernel
theorem dX11_breaksLaw_16 : decode cX11_breaksLaw 16 = .ok (.invokevirtual 205, 3) := by decide +kernel
theorem dX11_breaksLaw_19 : decode cX11_breaksLaw 19 = .ok (.iconst 0, 1) := by decide +kernel
theorem dX11_breaksLaw_20 : decode cX11_breaksLaw 20 = .ok (.istore_n 3, 1) := by decide +kernel
theorem dX11_breaksLaw_21 : decode cX11_breaksLaw 21 = .ok (.iload_n 3, 1) := by decide +kernel
theorem dX11_breaksLaw_22 : decode cX11_breaksLaw 22 = .ok (.aload_n 0, 1) := by decide +kernel
theorem dX11_breaksLaw_23 : decode cX11_breaksLaw 23 = .ok (.getfield 154, 3) := by decide +kernel
theorem dX11_breaksLaw_26 : decode cX11_breaksLaw 26 = .ok (.if_icmp .ge 83, 3) := by decide +kernel
theorem dX11_breaksLaw_29 : decode cX11_breaksLaw 29 = .ok (.aload_n 0, 1) := by decide +kernel
theorem dX11_breaksLaw_30 : decode cX11_breaksLaw 30 = .ok (.iload_n 3, 1) := by decide +kernel
theorem dX11_breaksLaw_31 : decode cX11_breaksLaw 31 = .ok (.aload_n 0, 1) := by decide +kernel
theorem dX11_breaksLaw_32 : decode cX11_breaksLaw 32 = .ok (.getfield 77, 3) := by decide +kernel
theorem dX11_breaksLaw_35 : decode cX11_breaksLaw 35 = .ok (.iload_n 3, 1) := by decide +kernel
theorem dX11_breaksLaw_36 : decode cX11_breaksLaw 36 = .ok (.baload, 1) := by decide +kernel
theorem dX11_breaksLaw_37 : decode cX11_breaksLaw 37 = .ok (.invokevirtual 167, 3) := by decide +kernel
theorem dX11_breaksLaw_40 : decode cX11_breaksLaw 40 = .ok (.istore 4, 2) := by decide +kernel
theorem dX11_breaksLaw_42 : decode cX11_breaksLaw 42 = .ok (.iload 4, 2) := by decide +kernel
theorem dX11_breaksLaw_44 : decode cX11_breaksLaw 44 = .ok (.ifCond .le 39, 3) := by decide +kernel
theorem dX11_breaksLaw_47 : decode cX11_breaksLaw 47 = .ok (.aload_n 0, 1) := by decide +kernel
theorem dX11_breaksLaw_48 : decode cX11_breaksLaw 48 = .ok (.aload_n 0, 1) := by decide +kernel
theorem dX11_breaksLaw_49 : decode cX11_breaksLaw 49 = .ok (.aload_n 0, 1) := by decide +kernel
theorem dX11_breaksLaw_50 : decode cX11_breaksLaw 50 = .ok (.getfield 68, 3) := by decide +kernel
theorem dX11_breaksLaw_53 : decode cX11_breaksLaw 53 = .ok (.iload_n 3, 1) := by decide +kernel
theorem dX11_breaksLaw_54 : decode cX11_breaksLaw 54 = .ok (.iaload, 1) := by decide +kernel
theorem dX11_breaksLaw_55 : decode cX11_breaksLaw 55 = .ok (.aload_n 0, 1) := by decide +kernel
theorem dX11_breaksLaw_56 : decode cX11_breaksLaw 56 = .ok (.getfield 13, 3) := by decide +kernel
theorem dX11_breaksLaw_59 : decode cX11_breaksLaw 59 = .ok (.aload_n 0, 1) := by decide +kernel
theorem dX11_breaksLaw_60 : decode cX11_breaksLaw 60 = .ok (.getfield 77, 3) := by decide +kernel
theorem dX11_breaksLaw_63 : decode cX11_breaksLaw 63 = .ok (.iload_n 3, 1) := by decide +kernel
theorem dX11_breaksLaw_64 : decode cX11_breaksLaw 64 = .ok (.baload, 1) := by decide +kernel
theorem dX11_breaksLaw_65 : decode cX11_breaksLaw 65 = .ok (.ifCond .eq 7, 3) := by decide +kernel
theorem dX11_breaksLaw_68 : decode cX11_breaksLaw 68 = .ok (.iconst 5, 1) := by decide +kernel
theorem dX11_breaksLaw_69 : decode cX11_breaksLaw 69 = .ok (.goto 4, 3) := by decide +kernel
theorem dX11_breaksLaw_72 : decode cX11_breaksLaw 72 = .ok (.iconst 4, 1) := by decide +kernel
theorem dX11_breaksLaw_73 : decode cX11_breaksLaw 73 = .ok (.iaload, 1) := by decide +kernel
theorem dX11_breaksLaw_74 : decode cX11_breaksLaw 74 = .ok (.invokevirtual 208, 3) := by decide +kernel
theorem dX11_breaksLaw_77 : decode cX11_breaksLaw 77 = .ok (.iconst 2, 1) := by decide +kernel
theorem dX11_breaksLaw_78 : decode cX11_breaksLaw 78 = .ok (.iload 4, 2) := by decide +kernel
theorem dX11_breaksLaw_80 : decode cX11_breaksLaw 80 = .ok (.invokevirtual 147, 3) := by decide +kernel
theorem dX11_breaksLaw_83 : decode cX11_breaksLaw 83 = .ok (.aload_n 0, 1) := by decide +kernel
theorem dX11_breaksLaw_84 : decode cX11_breaksLaw 84 = .ok (.aload_n 0, 1) := by decide +kernel
theorem dX11_breaksLaw_85 : decode cX11_breaksLaw 85 = .ok (.getfield 68, 3) := by decide +kernel
theorem dX11_breaksLaw_88 : decode cX11_breaksLaw 88 = .ok (.iload_n 3, 1) := by decide +kernel
theorem dX11_breaksLaw_89 : decode cX11_breaksLaw 89 = .ok (.iaload, 1) := by decide +kernel
theorem dX11_breaksLaw_90 : decode cX11_breaksLaw 90 = .ok (.sipush 1440, 3) := by decide +kernel
theorem dX11_breaksLaw_93 : decode cX11_breaksLaw 93 = .ok (.iadd, 1) := by decide +kernel
theorem dX11_breaksLaw_94 : decode cX11_breaksLaw 94 = .ok (.iconst 3, 1) := by decide +kernel
theorem dX11_breaksLaw_95 : decode cX11_breaksLaw 95 = .ok (.aload_n 0, 1) := by decide +kernel
theorem dX11_breaksLaw_96 : decode cX11_breaksLaw 96 = .ok (.iload_n 3, 1) := by decide +kernel
theorem dX11_breaksLaw_97 : decode cX11_breaksLaw 97 = .ok (.invokevirtual 180, 3) := by decide +kernel
theorem dX11_breaksLaw_100 : decode cX11_breaksLaw 100 = .ok (.invokevirtual 147, 3) := by decide +kernel
theorem dX11_breaksLaw_103 : decode cX11_breaksLaw 103 = .ok (.iinc 3 1, 3) := by decide +kernel
theorem dX11_breaksLaw_106 : decode cX11_breaksLaw 106 = .ok (.goto (-85), 3) := by decide +kernel
theorem dX11_breaksLaw_109 : decode cX11_breaksLaw 109 = .ok (.iconst 0, 1) := by decide +kernel
theorem dX11_breaksLaw_110 : decode cX11_breaksLaw 110 = .ok (.istore_n 3, 1) := by decide +kernel
theorem dX11_breaksLaw_111 : decode cX11_breaksLaw 111 = .ok (.iload_n 3, 1) := by decide +kernel
theorem dX11_breaksLaw_112 : decode cX11_breaksLaw 112 = .ok (.iconst 2, 1) := by decide +kernel
theorem dX11_breaksLaw_113 : decode cX11_breaksLaw 113 = .ok (.if_icmp .ge 100, 3) := by decide +kernel
theorem dX11_breaksLaw_116 : decode cX11_breaksLaw 116 = .ok (.iload_n 3, 1) := by decide +kernel
theorem dX11_breaksLaw_117 : decode cX11_breaksLaw 117 = .ok (.sipush 10080, 3) := by decide +kernel
theorem dX11_breaksLaw_120 : decode cX11_breaksLaw 120 = .ok (.imul, 1) := by decide +kernel
theorem dX11_breaksLaw_121 : decode cX11_breaksLaw 121 = .ok (.aload_n 0, 1) := by decide +kernel
theorem dX11_breaksLaw_122 : decode cX11_breaksLaw 122 = .ok (.getfield 121, 3) := by decide +kernel
theorem dX11_breaksLaw_125 : decode cX11_breaksLaw 125 = .ok (.if_icmp .ge 88, 3) := by decide +kernel
theorem dX11_breaksLaw_128 : decode cX11_breaksLaw 128 = .ok (.iload_n 3, 1) := by decide +kernel
theorem dX11_breaksLaw_129 : decode cX11_breaksLaw 129 = .ok (.iconst 1, 1) := by decide +kernel
theorem dX11_breaksLaw_130 : decode cX11_breaksLaw 130 = .ok (.iadd, 1) := by decide +kernel
theorem dX11_breaksLaw_131 : decode cX11_breaksLaw 131 = .ok (.sipush 10080, 3) := by decide +kernel
theorem dX11_breaksLaw_134 : decode cX11_breaksLaw 134 = .ok (.imul, 1) := by decide +kernel
theorem dX11_breaksLaw_135 : decode cX11_breaksLaw 135 = .ok (.aload_n 0, 1) := by decide +kernel
theorem dX11_breaksLaw_136 : decode cX11_breaksLaw 136 = .ok (.getfield 121, 3) := by decide +kernel
theorem dX11_breaksLaw_139 : decode cX11_breaksLaw 139 = .ok (.if_icmp .ge 13, 3) := by decide +kernel
theorem dX11_breaksLaw_142 : decode cX11_breaksLaw 142 = .ok (.iload_n 3, 1) := by decide +kernel
theorem dX11_breaksLaw_143 : decode cX11_breaksLaw 143 = .ok (.iconst 1, 1) := by decide +kernel
theorem dX11_breaksLaw_144 : decode cX11_breaksLaw 144 = .ok (.iadd, 1) := by decide +kernel
theorem dX11_breaksLaw_145 : decode cX11_breaksLaw 145 = .ok (.sipush 10080, 3) := by decide +kernel
theorem dX11_breaksLaw_148 : decode cX11_breaksLaw 148 = .ok (.imul, 1) := by decide +kernel
theorem dX11_breaksLaw_149 : decode cX11_breaksLaw 149 = .ok (.goto 7, 3) := by decide +kernel
theorem dX11_breaksLaw_152 : decode cX11_breaksLaw 152 = .ok (.aload_n 0, 1) := by decide +kernel
theorem dX11_breaksLaw_153 : decode cX11_breaksLaw 153 = .ok (.getfield 121, 3) := by decide +kernel
theorem dX11_breaksLaw_156 : decode cX11_breaksLaw 156 = .ok (.istore 4, 2) := by decide +kernel
theorem dX11_breaksLaw_158 : decode cX11_breaksLaw 158 = .ok (.aload_n 0, 1) := by decide +kernel
theorem dX11_breaksLaw_159 : decode cX11_breaksLaw 159 = .ok (.iload_n 3, 1) := by decide +kernel
theorem dX11_breaksLaw_160 : decode cX11_breaksLaw 160 = .ok (.sipush 10080, 3) := by decide +kernel
theorem dX11_breaksLaw_163 : decode cX11_breaksLaw 163 = .ok (.imul, 1) := by decide +kernel
theorem dX11_breaksLaw_164 : decode cX11_breaksLaw 164 = .ok (.iload 4, 2) := by decide +kernel
theorem dX11_breaksLaw_166 : decode cX11_breaksLaw 166 = .ok (.invokevirtual 160, 3) := by decide +kernel
theorem dX11_breaksLaw_169 : decode cX11_breaksLaw 169 = .ok (.aload_n 0, 1) := by decide +kernel
theorem dX11_breaksLaw_170 : decode cX11_breaksLaw 170 = .ok (.getfield 13, 3) := by decide +kernel
theorem dX11_breaksLaw_173 : decode cX11_breaksLaw 173 = .ok (.bipush 10, 2) := by decide +kernel
theorem dX11_breaksLaw_175 : decode cX11_breaksLaw 175 = .ok (.iaload, 1) := by decide +kernel
theorem dX11_breaksLaw_176 : decode cX11_breaksLaw 176 = .ok (.isub, 1) := by decide +kernel
theorem dX11_breaksLaw_177 : decode cX11_breaksLaw 177 = .ok (.istore 5, 2) := by decide +kernel
theorem dX11_breaksLaw_179 : decode cX11_breaksLaw 179 = .ok (.iload 5, 2) := by decide +kernel
theorem dX11_breaksLaw_181 : decode cX11_breaksLaw 181 = .ok (.ifCond .le 26, 3) := by decide +kernel
theorem dX11_breaksLaw_184 : decode cX11_breaksLaw 184 = .ok (.aload_n 0, 1) := by decide +kernel
theorem dX11_breaksLaw_185 : decode cX11_breaksLaw 185 = .ok (.aload_n 0, 1) := by decide +kernel
theorem dX11_breaksLaw_186 : decode cX11_breaksLaw 186 = .ok (.iload_n 3, 1) := by decide +kernel
theorem dX11_breaksLaw_187 : decode cX11_breaksLaw 187 = .ok (.sipush 10080, 3) := by decide +kernel
theorem dX11_breaksLaw_190 : decode cX11_breaksLaw 190 = .ok (.imul, 1) := by decide +kernel
theorem dX11_breaksLaw_191 : decode cX11_breaksLaw 191 = .ok (.aload_n 0, 1) := by decide +kernel
theorem dX11_breaksLaw_192 : decode cX11_breaksLaw 192 = .ok (.getfield 13, 3) := by decide +kernel
theorem dX11_breaksLaw_195 : decode cX11_breaksLaw 195 = .ok (.bipush 10, 2) := by decide +kernel
theorem dX11_breaksLaw_197 : decode cX11_breaksLaw 197 = .ok (.iaload, 1) := by decide +kernel
theorem dX11_breaksLaw_198 : decode cX11_breaksLaw 198 = .ok (.invokevirtual 208, 3) := by decide +kernel
theorem dX11_breaksLaw_201 : decode cX11_breaksLaw 201 = .ok (.iconst 4, 1) := by decide +kernel
theorem dX11_breaksLaw_202 : decode cX11_breaksLaw 202 = .ok (.iload 5, 2) := by decide +kernel
theorem dX11_breaksLaw_204 : decode cX11_breaksLaw 204 = .ok (.invokevirtual 147, 3) := by decide +kernel
theorem dX11_breaksLaw_207 : decode cX11_breaksLaw 207 = .ok (.iinc 3 1, 3) := by decide +kernel
theorem dX11_breaksLaw_210 : decode cX11_breaksLaw 210 = .ok (.goto (-99), 3) := by decide +kernel
theorem dX11_breaksLaw_213 : decode cX11_breaksLaw 213 = .ok (.return_, 1) := by decide +kernel
theorem dX11_breaches_0 : decode cX11_breaches 0 = .ok (.iload_n 1, 1) := by decide +kernel
theorem dX11_breaches_1 : decode cX11_breaches 1 = .ok (.invokestatic 110, 3) := by decide +kernel
theorem dX11_breaches_4 : decode cX11_breaches 4 = .ok (.ifCond .ne 5, 3) := by decide +kernel
theorem dX11_breaches_7 : decode cX11_breaches 7 = .ok (.iconst (-1), 1) := by decide +kernel
theorem dX11_breaches_8 : decode cX11_breaches 8 = .ok (.ireturn, 1) := by decide +kernel
theorem dX11_breaches_9 : decode cX11_breaches 9 = .ok (.aload_n 0, 1) := by decide +kernel
theorem dX11_breaches_10 : decode cX11_breaches 10 = .ok (.iload_n 1, 1) := by decide +kernel
theorem dX11_breaches_11 : decode cX11_breaches 11 = .ok (.iload_n 2, 1) := by decide +kernel
theorem dX11_breaches_12 : decode cX11_breaches 12 = .ok (.invokevirtual 211, 3) := by decide +kernel
theorem dX11_breaches_15 : decode cX11_breaches 15 = .ok (.aload_n 0, 1) := by decide +kernel
theorem dX11_breaches_16 : decode cX11_breaches 16 = .ok (.getfield 131, 3) := by decide +kernel
theorem dX11_breaches_19 : decode cX11_breaches 19 = .ok (.ireturn, 1) := by decide +kernel
theorem dX11_breach_0 : decode cX11_breach 0 = .ok (.iload_n 1, 1) := by decide +kernel
theorem dX11_breach_1 : decode cX11_breach 1 = .ok (.invokestatic 110, 3) := by decide +kernel
theorem dX11_breach_4 : decode cX11_breach 4 = .ok (.ifCond .eq 7, 3) := by decide +kernel
theorem dX11_breach_7 : decode cX11_breach 7 = .ok (.iload_n 3, 1) := by decide +kernel
theorem dX11_breach_8 : decode cX11_breach 8 = .ok (.ifCond .ge 5, 3) := by decide +kernel
theorem dX11_breach_11 : decode cX11_breach 11 = .ok (.iconst (-1), 1) := by decide +kernel
theorem dX11_breach_12 : decode cX11_breach 12 = .ok (.ireturn, 1) := by decide +kernel
theorem dX11_breach_13 : decode cX11_breach 13 = .ok (.aload_n 0, 1) := by decide +kernel
theorem dX11_breach_14 : decode cX11_breach 14 = .ok (.iload_n 1, 1) := by decide +kernel
theorem dX11_breach_15 : decode cX11_breach 15 = .ok (.iload_n 2, 1) := by decide +kernel
theorem dX11_breach_16 : decode cX11_breach 16 = .ok (.invokevirtual 211, 3) := by decide +kernel
theorem dX11_breach_19 : decode cX11_breach 19 = .ok (.iload_n 3, 1) := by decide +kernel
theorem dX11_breach_20 : decode cX11_breach 20 = .ok (.aload_n 0, 1) := by decide +kernel
theorem dX11_breach_21 : decode cX11_breach 21 = .ok (.getfield 131, 3) := by decide +kernel
theorem dX11_breach_24 : decode cX11_breach 24 = .ok (.if_icmp .lt 5, 3) := by decide +kernel
theorem dX11_breach_27 : decode cX11_breach 27 = .ok (.iconst (-1), 1) := by decide +kernel
theorem dX11_breach_28 : decode cX11_breach 28 = .ok (.ireturn, 1) := by decide +kernel
theorem dX11_breach_29 : decode cX11_breach 29 = .ok (.iload 4, 2) := by decide +kernel
theorem dX11_breach_31 : decode cX11_breach 31 = .ok (.ifCond .ne 12, 3) := by decide +kernel
theorem dX11_breach_34 : decode cX11_breach 34 = .ok (.aload_n 0, 1) := by decide +kernel
theorem dX11_breach_35 : decode cX11_breach 35 = .ok (.getfield 56, 3) := by decide +kernel
theorem dX11_breach_38 : decode cX11_breach 38 = .ok (.iload_n 3, 1) := by decide +kernel
theorem dX11_breach_39 : decode cX11_breach 39 = .ok (.iaload, 1) := by decide +kernel
theorem dX11_breach_40 : decode cX11_breach 40 = .ok (.goto 34, 3) := by decide +kernel
theorem dX11_breach_43 : decode cX11_breach 43 = .ok (.iload 4, 2) := by decide +kernel
theorem dX11_breach_45 : decode cX11_breach 45 = .ok (.iconst 1, 1) := by decide +kernel
theorem dX11_breach_46 : decode cX11_breach 46 = .ok (.if_icmp .ne 12, 3) := by decide +kernel
theorem dX11_breach_49 : decode cX11_breach 49 = .ok (.aload_n 0, 1) := by decide +kernel
theorem dX11_breach_50 : decode cX11_breach 50 = .ok (.getfield 59, 3) := by decide +kernel
theorem dX11_breach_53 : decode cX11_breach 53 = .ok (.iload_n 3, 1) := by decide +kernel
theorem dX11_breach_54 : decode cX11_breach 54 = .ok (.iaload, 1) := by decide +kernel
theorem dX11_breach_55 : decode cX11_breach 55 = .ok (.goto 19, 3) := by decide +kernel
theorem dX11_breach_58 : decode cX11_breach 58 = .ok (.iload 4, 2) := by decide +kernel
theorem dX11_breach_60 : decode cX11_breach 60 = .ok (.iconst 2, 1) := by decide +kernel
theorem dX11_breach_61 : decode cX11_breach 61 = .ok (.if_icmp .ne 12, 3) := by decide +kernel
theorem dX11_breach_64 : decode cX11_breach 64 = .ok (.aload_n 0, 1) := by decide +kernel
theorem dX11_breach_65 : decode cX11_breach 65 = .ok (.getfield 62, 3) := by decide +kernel
theorem dX11_breach_68 : decode cX11_breach 68 = .ok (.iload_n 3, 1) := by decide +kernel
theorem dX11_breach_69 : decode cX11_breach 69 = .ok (.iaload, 1) := by decide +kernel
theorem dX11_breach_70 : decode cX11_breach 70 = .ok (.goto 4, 3) := by decide +kernel
theorem dX11_breach_73 : decode cX11_breach 73 = .ok (.iconst (-1), 1) := by decide +kernel
theorem dX11_breach_74 : decode cX11_breach 74 = .ok (.ireturn, 1) := by decide +kernel
theorem dX11_weight_0 : decode cX11_weight 0 = .ok (.iload_n 1, 1) := by decide +kernel
theorem dX11_weight_1 : decode cX11_weight 1 = .ok (.invokestatic 110, 3) := by decide +kernel
theorem dX11_weight_4 : decode cX11_weight 4 = .ok (.ifCond .ne 5, 3) := by decide +kernel
theorem dX11_weight_7 : decode cX11_weight 7 = .ok (.iconst (-1), 1) := by decide +kernel
theorem dX11_weight_8 : decode cX11_weight 8 = .ok (.ireturn, 1) := by decide +kernel
theorem dX11_weight_9 : decode cX11_weight 9 = .ok (.aload_n 0, 1) := by decide +kernel
theorem dX11_weight_10 : decode cX11_weight 10 = .ok (.iload_n 1, 1) := by decide +kernel
theorem dX11_weight_11 : decode cX11_weight 11 = .ok (.iload_n 2, 1) := by decide +kernel
theorem dX11_weight_12 : decode cX11_weight 12 = .ok (.invokevirtual 198, 3) := by decide +kernel
theorem dX11_weight_15 : decode cX11_weight 15 = .ok (.aload_n 0, 1) := by decide +kernel
theorem dX11_weight_16 : decode cX11_weight 16 = .ok (.invokevirtual 205, 3) := by decide +kernel
theorem dX11_weight_19 : decode cX11_weight 19 = .ok (.aload_n 0, 1) := by decide +kernel
theorem dX11_weight_20 : decode cX11_weight 20 = .ok (.getfield 177, 3) := by decide +kernel
theorem dX11_weight_23 : decode cX11_weight 23 = .ok (.ireturn, 1) := by decide +kernel
theorem dX11_day_0 : decode cX11_day 0 = .ok (.iload_n 1, 1) := by decide +kernel
theorem dX11_day_1 : decode cX11_day 1 = .ok (.invokestatic 110, 3) := by decide +kernel
theorem dX11_day_4 : decode cX11_day 4 = .ok (.ifCond .eq 7, 3) := by decide +kernel
theorem dX11_day_7 : decode cX11_day 7 = .ok (.iload_n 3, 1) := by decide +kernel
theorem dX11_day_8 : decode cX11_day 8 = .ok (.ifCond .ge 5, 3) := by decide +kernel
theorem dX11_day_11 : decode cX11_day 11 = .ok (.iconst (-1), 1) := by decide +kernel
theorem dX11_day_12 : decode cX11_day 12 = .ok (.ireturn, 1) := by decide +kernel
theorem dX11_day_13 : decode cX11_day 13 = .ok (.aload_n 0, 1) := by decide +kernel
theorem dX11_day_14 : decode cX11_day 14 = .ok (.iload_n 1, 1) := by decide +kernel
theorem dX11_day_15 : decode cX11_day 15 = .ok (.iload_n 2, 1) := by decide +kernel
theorem dX11_day_16 : decode cX11_day 16 = .ok (.invokevirtual 198, 3) := by decide +kernel
theorem dX11_day_19 : decode cX11_day 19 = .ok (.aload_n 0, 1) := by decide +kernel
theorem dX11_day_20 : decode cX11_day 20 = .ok (.invokevirtual 205, 3) := by decide +kernel
theorem dX11_day_23 : decode cX11_day 23 = .ok (.iload_n 3, 1) := by decide +kernel
theorem dX11_day_24 : decode cX11_day 24 = .ok (.aload_n 0, 1) := by decide +kernel
theorem dX11_day_25 : decode cX11_day 25 = .ok (.getfield 154, 3) := by decide +kernel
theorem dX11_day_28 : decode cX11_day 28 = .ok (.if_icmp .lt 5, 3) := by decide +kernel
theorem dX11_day_31 : decode cX11_day 31 = .ok (.iconst (-1), 1) := by decide +kernel
theorem dX11_day_32 : decode cX11_day 32 = .ok (.ireturn, 1) := by decide +kernel
theorem dX11_day_33 : decode cX11_day 33 = .ok (.iload 4, 2) := by decide +kernel
theorem dX11_day_35 : decode cX11_day 35 = .ok (.tableswitch 119 0 4 #[33, 40, 47, 64, 79], 33) := by decide +kernel
theorem dX11_day_68 : decode cX11_day 68 = .ok (.aload_n 0, 1) := by decide +kernel
theorem dX11_day_69 : decode cX11_day 69 = .ok (.getfield 68, 3) := by decide +kernel
theorem dX11_day_72 : decode cX11_day 72 = .ok (.iload_n 3, 1) := by decide +kernel
theorem dX11_day_73 : decode cX11_day 73 = .ok (.iaload, 1) := by decide +kernel
theorem dX11_day_74 : decode cX11_day 74 = .ok (.ireturn, 1) := by decide +kernel
theorem dX11_day_75 : decode cX11_day 75 = .ok (.aload_n 0, 1) := by decide +kernel
theorem dX11_day_76 : decode cX11_day 76 = .ok (.getfield 71, 3) := by decide +kernel
theorem dX11_day_79 : decode cX11_day 79 = .ok (.iload_n 3, 1) := by decide +kernel
theorem dX11_day_80 : decode cX11_day 80 = .ok (.iaload, 1) := by decide +kernel
theorem dX11_day_81 : decode cX11_day 81 = .ok (.ireturn, 1) := by decide +kernel
theorem dX11_day_82 : decode cX11_day 82 = .ok (.aload_n 0, 1) := by decide +kernel
theorem dX11_day_83 : decode cX11_day 83 = .ok (.aload_n 0, 1) := by decide +kernel
theorem dX11_day_84 : decode cX11_day 84 = .ok (.getfield 68, 3) := by decide +kernel
theorem dX11_day_87 : decode cX11_day 87 = .ok (.iload_n 3, 1) := by decide +kernel
theorem dX11_day_88 : decode cX11_day 88 = .ok (.iaload, 1) := by decide +kernel
theorem dX11_day_89 : decode cX11_day 89 = .ok (.aload_n 0, 1) := by decide +kernel
theorem dX11_day_90 : decode cX11_day 90 = .ok (.getfield 71, 3) := by decide +kernel
theorem dX11_day_93 : decode cX11_day 93 = .ok (.iload_n 3, 1) := by decide +kernel
theorem dX11_day_94 : decode cX11_day 94 = .ok (.iaload, 1) := by decide +kernel
theorem dX11_day_95 : decode cX11_day 95 = .ok (.invokevirtual 160, 3) := by decide +kernel
theorem dX11_day_98 : decode cX11_day 98 = .ok (.ireturn, 1) := by decide +kernel
theorem dX11_day_99 : decode cX11_day 99 = .ok (.aload_n 0, 1) := by decide +kernel
theorem dX11_day_100 : decode cX11_day 100 = .ok (.getfield 77, 3) := by decide +kernel
theorem dX11_day_103 : decode cX11_day 103 = .ok (.iload_n 3, 1) := by decide +kernel
theorem dX11_day_104 : decode cX11_day 104 = .ok (.baload, 1) := by decide +kernel
theorem dX11_day_105 : decode cX11_day 105 = .ok (.ifCond .eq 7, 3) := by decide +kernel
theorem dX11_day_108 : decode cX11_day 108 = .ok (.iconst 1, 1) := by decide +kernel
theorem dX11_day_109 : decode cX11_day 109 = .ok (.goto 4, 3) := by decide +kernel
theorem dX11_day_112 : decode cX11_day 112 = .ok (.iconst 0, 1) := by decide +kernel
theorem dX11_day_113 : decode cX11_day 113 = .ok (.ireturn, 1) := by decide +kernel
theorem dX11_day_114 : decode cX11_day 114 = .ok (.aload_n 0, 1) := by decide +kernel
theorem dX11_day_115 : decode cX11_day 115 = .ok (.getfield 74, 3) := by decide +kernel
theorem dX11_day_118 : decode cX11_day 118 = .ok (.iload_n 3, 1) := by decide +kernel
theorem dX11_day_119 : decode cX11_day 119 = .ok (.iaload, 1) := by decide +kernel
theorem dX11_day_120 : decode cX11_day 120 = .ok (.iconst (-1), 1) := by decide +kernel
theorem dX11_day_121 : decode cX11_day 121 = .ok (.if_icmp .ne 7, 3) := by decide +kernel
theorem dX11_day_124 : decode cX11_day 124 = .ok (.iconst 0, 1) := by decide +kernel
theorem dX11_day_125 : decode cX11_day 125 = .ok (.goto 28, 3) := by decide +kernel
theorem dX11_day_128 : decode cX11_day 128 = .ok (.aload_n 0, 1) := by decide +kernel
theorem dX11_day_129 : decode cX11_day 129 = .ok (.aload_n 0, 1) := by decide +kernel
theorem dX11_day_130 : decode cX11_day 130 = .ok (.getfield 74, 3) := by decide +kernel
theorem dX11_day_133 : decode cX11_day 133 = .ok (.iload_n 3, 1) := by decide +kernel
theorem dX11_day_134 : decode cX11_day 134 = .ok (.iaload, 1) := by decide +kernel
theorem dX11_day_135 : decode cX11_day 135 = .ok (.invokevirtual 141, 3) := by decide +kernel
theorem dX11_day_138 : decode cX11_day 138 = .ok (.aload_n 0, 1) := by decide +kernel
theorem dX11_day_139 : decode cX11_day 139 = .ok (.getfield 13, 3) := by decide +kernel
theorem dX11_day_142 : decode cX11_day 142 = .ok (.bipush 7, 2) := by decide +kernel
theorem dX11_day_144 : decode cX11_day 144 = .ok (.iaload, 1) := by decide +kernel
theorem dX11_day_145 : decode cX11_day 145 = .ok (.if_icmp .lt 7, 3) := by decide +kernel
theorem dX11_day_148 : decode cX11_day 148 = .ok (.iconst 1, 1) := by decide +kernel
theorem dX11_day_149 : decode cX11_day 149 = .ok (.goto 4, 3) := by decide +kernel
theorem dX11_day_152 : decode cX11_day 152 = .ok (.iconst 2, 1) := by decide +kernel
theorem dX11_day_153 : decode cX11_day 153 = .ok (.ireturn, 1) := by decide +kernel
theorem dX11_day_154 : decode cX11_day 154 = .ok (.iconst (-1), 1) := by decide +kernel
theorem dX11_day_155 : decode cX11_day 155 = .ok (.ireturn, 1) := by decide +kernel
theorem dX11_open_0 : decode cX11_open 0 = .ok (.aload_n 0, 1) := by decide +kernel
theorem dX11_open_1 : decode cX11_open 1 = .ok (.getfield 128, 3) := by decide +kernel
theorem dX11_open_4 : decode cX11_open 4 = .ok (.ifCond .le 30, 3) := by decide +kernel
theorem dX11_open_7 : decode cX11_open 7 = .ok (.aload_n 0, 1) := by decide +kernel
theorem dX11_open_8 : decode cX11_open 8 = .ok (.getfield 53, 3) := by decide +kernel
theorem dX11_open_11 : decode cX11_open 11 = .ok (.aload_n 0, 1) := by decide +kernel
theorem dX11_open_12 : decode cX11_open 12 = .ok (.getfield 128, 3) := by decide +kernel
theorem dX11_open_15 : decode cX11_open 15 = .ok (.iconst 1, 1) := by decide +kernel
theorem dX11_open_16 : decode cX11_open 16 = .ok (.isub, 1) := by decide +kernel
theorem dX11_open_17 : decode cX11_open 17 = .ok (.iaload, 1) := by decide +kernel
theorem dX11_open_18 : decode cX11_open 18 = .ok (.aload_n 0, 1) := by decide +kernel
theorem dX11_open_19 : decode cX11_open 19 = .ok (.getfield 121, 3) := by decide +kernel
theorem dX11_open_22 : decode cX11_open 22 = .ok (.if_icmp .ne 12, 3) := by decide +kernel
theorem dX11_open_25 : decode cX11_open 25 = .ok (.aload_n 0, 1) := by decide +kernel
theorem dX11_open_26 : decode cX11_open 26 = .ok (.getfield 128, 3) := by decide +kernel
theorem dX11_open_29 : decode cX11_open 29 = .ok (.iconst 1, 1) := by decide +kernel
theorem dX11_open_30 : decode cX11_open 30 = .ok (.isub, 1) := by decide +kernel
theorem dX11_open_31 : decode cX11_open 31 = .ok (.goto 7, 3) := by decide +kernel
theorem dX11_open_34 : decode cX11_open 34 = .ok (.aload_n 0, 1) := by decide +kernel
theorem dX11_open_35 : decode cX11_open 35 = .ok (.getfield 128, 3) := by decide +kernel
theorem dX11_open_38 : decode cX11_open 38 = .ok (.istore_n 1, 1) := by decide +kernel
theorem dX11_open_39 : decode cX11_open 39 = .ok (.iconst 0, 1) := by decide +kernel
theorem dX11_open_40 : decode cX11_open 40 = .ok (.istore_n 2, 1) := by decide +kernel
theorem dX11_open_41 : decode cX11_open 41 = .ok (.aload_n 0, 1) := by decide +kernel
theorem dX11_open_42 : decode cX11_open 42 = .ok (.iconst 0, 1) := by decide +kernel
theorem dX11_open_43 : decode cX11_open 43 = .ok (.putfield 138, 3) := by decide +kernel
theorem dX11_open_46 : decode cX11_open 46 = .ok (.aload_n 0, 1) := by decide +kernel
theorem dX11_open_47 : decode cX11_open 47 = .ok (.iconst 0, 1) := by decide +kernel
theorem dX11_open_48 : decode cX11_open 48 = .ok (.putfield 134, 3) := by decide +kernel
theorem dX11_open_51 : decode cX11_open 51 = .ok (.iconst 0, 1) := by decide +kernel
theorem dX11_open_52 : decode cX11_open 52 = .ok (.istore_n 3, 1) := by decide +kernel
theorem dX11_open_53 : decode cX11_open 53 = .ok (.iload_n 3, 1) := by decide +kernel
theorem dX11_open_54 : decode cX11_open 54 = .ok (.iload_n 1, 1) := by decide +kernel
theorem dX11_open_55 : decode cX11_open 55 = .ok (.if_icmp .ge 80, 3) := by decide +kernel
theorem dX11_open_58 : decode cX11_open 58 = .ok (.aload_n 0, 1) := by decide +kernel
theorem dX11_open_59 : decode cX11_open 59 = .ok (.aload_n 0, 1) := by decide +kernel
theorem dX11_open_60 : decode cX11_open 60 = .ok (.getfield 138, 3) := by decide +kernel
theorem dX11_open_63 : decode cX11_open 63 = .ok (.aload_n 0, 1) := by decide +kernel
theorem dX11_open_64 : decode cX11_open 64 = .ok (.iload_n 2, 1) := by decide +kernel
theorem dX11_open_65 : decode cX11_open 65 = .ok (.aload_n 0, 1) := by decide +kernel
theorem dX11_open_66 : decode cX11_open 66 = .ok (.getfield 53, 3) := by decide +kernel
theorem dX11_open_69 : decode cX11_open 69 = .ok (.iload_n 3, 1) := by decide +kernel
theorem dX11_open_70 : decode cX11_open 70 = .ok (.iaload, 1) := by decide +kernel
theorem dX11_open_71 : decode cX11_open 71 = .ok (.invokevirtual 160, 3) := by decide +kernel
theorem dX11_open_74 : decode cX11_open 74 = .ok (.iadd, 1) := by decide +kernel
theorem dX11_open_75 : decode cX11_open 75 = .ok (.putfield 138, 3) := by decide +kernel
theorem dX11_open_78 : decode cX11_open 78 = .ok (.aload_n 0, 1) := by decide +kernel
theorem dX11_open_79 : decode cX11_open 79 = .ok (.getfield 53, 3) := by decide +kernel
theorem dX11_open_82 : decode cX11_open 82 = .ok (.iload_n 3, 1) := by decide +kernel
theorem dX11_open_83 : decode cX11_open 83 = .ok (.iaload, 1) := by decide +kernel
theorem dX11_open_84 : decode cX11_open 84 = .ok (.istore_n 2, 1) := by decide +kernel
theorem dX11_open_85 : decode cX11_open 85 = .ok (.aload_n 0, 1) := by decide +kernel
theorem dX11_open_86 : decode cX11_open 86 = .ok (.aload_n 0, 1) := by decide +kernel
theorem dX11_open_87 : decode cX11_open 87 = .ok (.iload_n 3, 1) := by decide +kernel
theorem dX11_open_88 : decode cX11_open 88 = .ok (.invokevirtual 141, 3) := by decide +kernel
theorem dX11_open_91 : decode cX11_open 91 = .ok (.invokevirtual 144, 3) := by decide +kernel
theorem dX11_open_94 : decode cX11_open 94 = .ok (.ifCond .eq 16, 3) := by decide +kernel
theorem dX11_open_97 : decode cX11_open 97 = .ok (.aload_n 0, 1) := by decide +kernel
theorem dX11_open_98 : decode cX11_open 98 = .ok (.iconst 0, 1) := by decide +kernel
theorem dX11_open_99 : decode cX11_open 99 = .ok (.putfield 138, 3) := by decide +kernel
theorem dX11_open_102 : decode cX11_open 102 = .ok (.aload_n 0, 1) := by decide +kernel
theorem dX11_open_103 : decode cX11_open 103 = .ok (.iconst 0, 1) := by decide +kernel
theorem dX11_open_104 : decode cX11_open 104 = .ok (.putfield 134, 3) := by decide +kernel
theorem dX11_open_107 : decode cX11_open 107 = .ok (.goto 22, 3) := by decide +kernel
theorem dX11_open_110 : decode cX11_open 110 = .ok (.aload_n 0, 1) := by decide +kernel
theorem dX11_open_111 : decode cX11_open 111 = .ok (.iload_n 3, 1) := by decide +kernel
theorem dX11_open_112 : decode cX11_open 112 = .ok (.invokevirtual 141, 3) := by decide +kernel
theorem dX11_open_115 : decode cX11_open 115 = .ok (.aload_n 0, 1) := by decide +kernel
theorem dX11_open_116 : decode cX11_open 116 = .ok (.getfield 13, 3) := by decide +kernel
theorem dX11_open_119 : decode cX11_open 119 = .ok (.iconst 2, 1) := by decide +kernel
theorem dX11_open_120 : decode cX11_open 120 = .ok (.iaload, 1) := by decide +kernel
theorem dX11_open_121 : decode cX11_open 121 = .ok (.if_icmp .lt 8, 3) := by decide +kernel
theorem dX11_open_124 : decode cX11_open 124 = .ok (.aload_n 0, 1) := by decide +kernel
theorem dX11_open_125 : decode cX11_open 125 = .ok (.iconst 1, 1) := by decide +kernel
theorem dX11_open_126 : decode cX11_open 126 = .ok (.putfield 134, 3) := by decide +kernel
theorem dX11_open_129 : decode cX11_open 129 = .ok (.iinc 3 1, 3) := by decide +kernel
theorem dX11_open_132 : decode cX11_open 132 = .ok (.goto (-79), 3) := by decide +kernel
theorem dX11_open_135 : decode cX11_open 135 = .ok (.aload_n 0, 1) := by decide +kernel
theorem dX11_open_136 : decode cX11_open 136 = .ok (.aload_n 0, 1) := by decide +kernel
theorem dX11_open_137 : decode cX11_open 137 = .ok (.getfield 138, 3) := by decide +kernel
theorem dX11_open_140 : decode cX11_open 140 = .ok (.aload_n 0, 1) := by decide +kernel
theorem dX11_open_141 : decode cX11_open 141 = .ok (.iload_n 2, 1) := by decide +kernel
theorem dX11_open_142 : decode cX11_open 142 = .ok (.aload_n 0, 1) := by decide +kernel
theorem dX11_open_143 : decode cX11_open 143 = .ok (.getfield 121, 3) := by decide +kernel
theorem dX11_open_146 : decode cX11_open 146 = .ok (.invokevirtual 160, 3) := by decide +kernel
theorem dX11_open_149 : decode cX11_open 149 = .ok (.iadd, 1) := by decide +kernel
theorem dX11_open_150 : decode cX11_open 150 = .ok (.putfield 138, 3) := by decide +kernel
theorem dX11_open_153 : decode cX11_open 153 = .ok (.iload_n 1, 1) := by decide +kernel
theorem dX11_open_154 : decode cX11_open 154 = .ok (.aload_n 0, 1) := by decide +kernel
theorem dX11_open_155 : decode cX11_open 155 = .ok (.getfield 128, 3) := by decide +kernel
theorem dX11_open_158 : decode cX11_open 158 = .ok (.if_icmp .ge 11, 3) := by decide +kernel
theorem dX11_open_161 : decode cX11_open 161 = .ok (.aload_n 0, 1) := by decide +kernel
theorem dX11_open_162 : decode cX11_open 162 = .ok (.iload_n 1, 1) := by decide +kernel
theorem dX11_open_163 : decode cX11_open 163 = .ok (.invokevirtual 141, 3) := by decide +kernel
theorem dX11_open_166 : decode cX11_open 166 = .ok (.goto 4, 3) := by decide +kernel
theorem dX11_open_169 : decode cX11_open 169 = .ok (.iconst 0, 1) := by decide +kernel
theorem dX11_open_170 : decode cX11_open 170 = .ok (.ireturn, 1) := by decide +kernel
theorem dX11_may_0 : decode cX11_may 0 = .ok (.iload_n 1, 1) := by decide +kernel
theorem dX11_may_1 : decode cX11_may 1 = .ok (.invokestatic 110, 3) := by decide +kernel
theorem dX11_may_4 : decode cX11_may 4 = .ok (.ifCond .ne 5, 3) := by decide +kernel
theorem dX11_may_7 : decode cX11_may 7 = .ok (.iconst (-1), 1) := by decide +kernel
theorem dX11_may_8 : decode cX11_may 8 = .ok (.ireturn, 1) := by decide +kernel
theorem dX11_may_9 : decode cX11_may 9 = .ok (.aload_n 0, 1) := by decide +kernel
theorem dX11_may_10 : decode cX11_may 10 = .ok (.iload_n 1, 1) := by decide +kernel
theorem dX11_may_11 : decode cX11_may 11 = .ok (.iload_n 2, 1) := by decide +kernel
theorem dX11_may_12 : decode cX11_may 12 = .ok (.invokevirtual 198, 3) := by decide +kernel
theorem dX11_may_15 : decode cX11_may 15 = .ok (.aload_n 0, 1) := by decide +kernel
theorem dX11_may_16 : decode cX11_may 16 = .ok (.invokevirtual 214, 3) := by decide +kernel
theorem dX11_may_19 : decode cX11_may 19 = .ok (.istore_n 3, 1) := by decide +kernel
theorem dX11_may_20 : decode cX11_may 20 = .ok (.iload_n 3, 1) := by decide +kernel
theorem dX11_may_21 : decode cX11_may 21 = .ok (.ifCond .le 15, 3) := by decide +kernel
theorem dX11_may_24 : decode cX11_may 24 = .ok (.aload_n 0, 1) := by decide +kernel
theorem dX11_may_25 : decode cX11_may 25 = .ok (.iload_n 3, 1) := by decide +kernel
theorem dX11_may_26 : decode cX11_may 26 = .ok (.invokevirtual 144, 3) := by decide +kernel
theorem dX11_may_29 : decode cX11_may 29 = .ok (.ifCond .eq 7, 3) := by decide +kernel
theorem dX11_may_32 : decode cX11_may 32 = .ok (.iconst 0, 1) := by decide +kernel
theorem dX11_may_33 : decode cX11_may 33 = .ok (.goto 7, 3) := by decide +kernel
theorem dX11_may_36 : decode cX11_may 36 = .ok (.aload_n 0, 1) := by decide +kernel
theorem dX11_may_37 : decode cX11_may 37 = .ok (.getfield 138, 3) := by decide +kernel
theorem dX11_may_40 : decode cX11_may 40 = .ok (.istore 4, 2) := by decide +kernel
theorem dX11_may_42 : decode cX11_may 42 = .ok (.iload 4, 2) := by decide +kernel
theorem dX11_may_44 : decode cX11_may 44 = .ok (.aload_n 0, 1) := by decide +kernel
theorem dX11_may_45 : decode cX11_may 45 = .ok (.getfield 13, 3) := by decide +kernel
theorem dX11_may_48 : decode cX11_may 48 = .ok (.iconst 0, 1) := by decide +kernel
theorem dX11_may_49 : decode cX11_may 49 = .ok (.iaload, 1) := by decide +kernel
theorem dX11_may_50 : decode cX11_may 50 = .ok (.if_icmp .ge 15, 3) := by decide +kernel
theorem dX11_may_53 : decode cX11_may 53 = .ok (.aload_n 0, 1) := by decide +kernel
theorem dX11_may_54 : decode cX11_may 54 = .ok (.getfield 13, 3) := by decide +kernel
theorem dX11_may_57 : decode cX11_may 57 = .ok (.iconst 0, 1) := by decide +kernel
theorem dX11_may_58 : decode cX11_may 58 = .ok (.iaload, 1) := by decide +kernel
theorem dX11_may_59 : decode cX11_may 59 = .ok (.iload 4, 2) := by decide +kernel
theorem dX11_may_61 : decode cX11_may 61 = .ok (.isub, 1) := by decide +kernel
theorem dX11_may_62 : decode cX11_may 62 = .ok (.goto 4, 3) := by decide +kernel
theorem dX11_may_65 : decode cX11_may 65 = .ok (.iconst 0, 1) := by decide +kernel
theorem dX11_may_66 : decode cX11_may 66 = .ok (.ireturn, 1) := by decide +kernel
theorem dX11_lesser_0 : decode cX11_lesser 0 = .ok (.iload_n 0, 1) := by decide +kernel
theorem dX11_lesser_1 : decode cX11_lesser 1 = .ok (.iload_n 1, 1) := by decide +kernel
theorem dX11_lesser_2 : decode cX11_lesser 2 = .ok (.if_icmp .ge 7, 3) := by decide +kernel
theorem dX11_lesser_5 : decode cX11_lesser 5 = .ok (.iload_n 0, 1) := by decide +kernel
theorem dX11_lesser_6 : decode cX11_lesser 6 = .ok (.goto 4, 3) := by decide +kernel
theorem dX11_lesser_9 : decode cX11_lesser 9 = .ok (.iload_n 1, 1) := by decide +kernel
theorem dX11_lesser_10 : decode cX11_lesser 10 = .ok (.ireturn, 1) := by decide +kernel
theorem dX11_wholeOr_0 : decode cX11_wholeOr 0 = .ok (.iload_n 1, 1) := by decide +kernel
theorem dX11_wholeOr_1 : decode cX11_wholeOr 1 = .ok (.ifCond .eq 28, 3) := by decide +kernel
theorem dX11_wholeOr_4 : decode cX11_wholeOr 4 = .ok (.aload_n 0, 1) := by decide +kernel
theorem dX11_wholeOr_5 : decode cX11_wholeOr 5 = .ok (.getfield 13, 3) := by decide +kernel
theorem dX11_wholeOr_8 : decode cX11_wholeOr 8 = .ok (.iconst 1, 1) := by decide +kernel
theorem dX11_wholeOr_9 : decode cX11_wholeOr 9 = .ok (.iaload, 1) := by decide +kernel
theorem dX11_wholeOr_10 : decode cX11_wholeOr 10 = .ok (.aload_n 0, 1) := by decide +kernel
theorem dX11_wholeOr_11 : decode cX11_wholeOr 11 = .ok (.getfield 13, 3) := by decide +kernel
theorem dX11_wholeOr_14 : decode cX11_wholeOr 14 = .ok (.iconst 2, 1) := by decide +kernel
theorem dX11_wholeOr_15 : decode cX11_wholeOr 15 = .ok (.iaload, 1) := by decide +kernel
theorem dX11_wholeOr_16 : decode cX11_wholeOr 16 = .ok (.aload_n 0, 1) := by decide +kernel
theorem dX11_wholeOr_17 : decode cX11_wholeOr 17 = .ok (.getfield 13, 3) := by decide +kernel
theorem dX11_wholeOr_20 : decode cX11_wholeOr 20 = .ok (.iconst 3, 1) := by decide +kernel
theorem dX11_wholeOr_21 : decode cX11_wholeOr 21 = .ok (.iaload, 1) := by decide +kernel
theorem dX11_wholeOr_22 : decode cX11_wholeOr 22 = .ok (.iadd, 1) := by decide +kernel
theorem dX11_wholeOr_23 : decode cX11_wholeOr 23 = .ok (.invokestatic 218, 3) := by decide +kernel
theorem dX11_wholeOr_26 : decode cX11_wholeOr 26 = .ok (.goto 9, 3) := by decide +kernel
theorem dX11_wholeOr_29 : decode cX11_wholeOr 29 = .ok (.aload_n 0, 1) := by decide +kernel
theorem dX11_wholeOr_30 : decode cX11_wholeOr 30 = .ok (.getfield 13, 3) := by decide +kernel
theorem dX11_wholeOr_33 : decode cX11_wholeOr 33 = .ok (.iconst 1, 1) := by decide +kernel
theorem dX11_wholeOr_34 : decode cX11_wholeOr 34 = .ok (.iaload, 1) := by decide +kernel
theorem dX11_wholeOr_35 : decode cX11_wholeOr 35 = .ok (.ireturn, 1) := by decide +kernel
theorem dX11_mostOf_0 : decode cX11_mostOf 0 = .ok (.iload_n 3, 1) := by decide +kernel
theorem dX11_mostOf_1 : decode cX11_mostOf 1 = .ok (.ifCond .ge 5, 3) := by decide +kernel
theorem dX11_mostOf_4 : decode cX11_mostOf 4 = .ok (.iconst 0, 1) := by decide +kernel
theorem dX11_mostOf_5 : decode cX11_mostOf 5 = .ok (.ireturn, 1) := by decide +kernel
theorem dX11_mostOf_6 : decode cX11_mostOf 6 = .ok (.iload_n 1, 1) := by decide +kernel
theorem dX11_mostOf_7 : decode cX11_mostOf 7 = .ok (.iload_n 3, 1) := by decide +kernel
theorem dX11_mostOf_8 : decode cX11_mostOf 8 = .ok (.invokestatic 218, 3) := by decide +kernel
theorem dX11_mostOf_11 : decode cX11_mostOf 11 = .ok (.istore 4, 2) := by decide +kernel
theorem dX11_mostOf_13 : decode cX11_mostOf 13 = .ok (.iload_n 1, 1) := by decide +kernel
theorem dX11_mostOf_14 : decode cX11_mostOf 14 = .ok (.istore 5, 2) := by decide +kernel
theorem dX11_mostOf_16 : decode cX11_mostOf 16 = .ok (.iload_n 3, 1) := by decide +kernel
theorem dX11_mostOf_17 : decode cX11_mostOf 17 = .ok (.iload_n 2, 1) := by decide +kernel
theorem dX11_mostOf_18 : decode cX11_mostOf 18 = .ok (.isub, 1) := by decide +kernel
theorem dX11_mostOf_19 : decode cX11_mostOf 19 = .ok (.istore 6, 2) := by decide +kernel
theorem dX11_mostOf_21 : decode cX11_mostOf 21 = .ok (.iload 6, 2) := by decide +kernel
theorem dX11_mostOf_23 : decode cX11_mostOf 23 = .ok (.ifCond .le 67, 3) := by decide +kernel
theorem dX11_mostOf_26 : decode cX11_mostOf 26 = .ok (.iload 5, 2) := by decide +kernel
theorem dX11_mostOf_28 : decode cX11_mostOf 28 = .ok (.aload_n 0, 1) := by decide +kernel
theorem dX11_mostOf_29 : decode cX11_mostOf 29 = .ok (.getfield 13, 3) := by decide +kernel
theorem dX11_mostOf_32 : decode cX11_mostOf 32 = .ok (.iconst 0, 1) := by decide +kernel
theorem dX11_mostOf_33 : decode cX11_mostOf 33 = .ok (.iaload, 1) := by decide +kernel
theorem dX11_mostOf_34 : decode cX11_mostOf 34 = .ok (.iadd, 1) := by decide +kernel
theorem dX11_mostOf_35 : decode cX11_mostOf 35 = .ok (.istore 5, 2) := by decide +kernel
theorem dX11_mostOf_37 : decode cX11_mostOf 37 = .ok (.iload 5, 2) := by decide +kernel
theorem dX11_mostOf_39 : decode cX11_mostOf 39 = .ok (.iload 6, 2) := by decide +kernel
theorem dX11_mostOf_41 : decode cX11_mostOf 41 = .ok (.invokestatic 218, 3) := by decide +kernel
theorem dX11_mostOf_44 : decode cX11_mostOf 44 = .ok (.iload 4, 2) := by decide +kernel
theorem dX11_mostOf_46 : decode cX11_mostOf 46 = .ok (.if_icmp .le 13, 3) := by decide +kernel
theorem dX11_mostOf_49 : decode cX11_mostOf 49 = .ok (.iload 5, 2) := by decide +kernel
theorem dX11_mostOf_51 : decode cX11_mostOf 51 = .ok (.iload 6, 2) := by decide +kernel
theorem dX11_mostOf_53 : decode cX11_mostOf 53 = .ok (.invokestatic 218, 3) := by decide +kernel
theorem dX11_mostOf_56 : decode cX11_mostOf 56 = .ok (.goto 5, 3) := by decide +kernel
theorem dX11_mostOf_59 : decode cX11_mostOf 59 = .ok (.iload 4, 2) := by decide +kernel
theorem dX11_mostOf_61 : decode cX11_mostOf 61 = .ok (.istore 4, 2) := by decide +kernel
theorem dX11_mostOf_63 : decode cX11_mostOf 63 = .ok (.iload 6, 2) := by decide +kernel
theorem dX11_mostOf_65 : decode cX11_mostOf 65 = .ok (.aload_n 0, 1) := by decide +kernel
theorem dX11_mostOf_66 : decode cX11_mostOf 66 = .ok (.aload_n 0, 1) := by decide +kernel
theorem dX11_mostOf_67 : decode cX11_mostOf 67 = .ok (.getfield 13, 3) := by decide +kernel
theorem dX11_mostOf_70 : decode cX11_mostOf 70 = .ok (.iconst 0, 1) := by decide +kernel
theorem dX11_mostOf_71 : decode cX11_mostOf 71 = .ok (.iaload, 1) := by decide +kernel
theorem dX11_mostOf_72 : decode cX11_mostOf 72 = .ok (.iconst 1, 1) := by decide +kernel
theorem dX11_mostOf_73 : decode cX11_mostOf 73 = .ok (.if_icmp .le 7, 3) := by decide +kernel
theorem dX11_mostOf_76 : decode cX11_mostOf 76 = .ok (.iconst 1, 1) := by decide +kernel
theorem dX11_mostOf_77 : decode cX11_mostOf 77 = .ok (.goto 4, 3) := by decide +kernel
theorem dX11_mostOf_80 : decode cX11_mostOf 80 = .ok (.iconst 0, 1) := by decide +kernel
theorem dX11_mostOf_81 : decode cX11_mostOf 81 = .ok (.invokevirtual 221, 3) := by decide +kernel
theorem dX11_mostOf_84 : decode cX11_mostOf 84 = .ok (.isub, 1) := by decide +kernel
theorem dX11_mostOf_85 : decode cX11_mostOf 85 = .ok (.istore 6, 2) := by decide +kernel
theorem dX11_mostOf_87 : decode cX11_mostOf 87 = .ok (.goto (-66), 3) := by decide +kernel
theorem dX11_mostOf_90 : decode cX11_mostOf 90 = .ok (.iload 4, 2) := by decide +kernel
theorem dX11_mostOf_92 : decode cX11_mostOf 92 = .ok (.ireturn, 1) := by decide +kernel
theorem dX11_greater_0 : decode cX11_greater 0 = .ok (.iload_n 0, 1) := by decide +kernel
theorem dX11_greater_1 : decode cX11_greater 1 = .ok (.iload_n 1, 1) := by decide +kernel
theorem dX11_greater_2 : decode cX11_greater 2 = .ok (.if_icmp .le 7, 3) := by decide +kernel
theorem dX11_greater_5 : decode cX11_greater 5 = .ok (.iload_n 0, 1) := by decide +kernel
theorem dX11_greater_6 : decode cX11_greater 6 = .ok (.goto 4, 3) := by decide +kernel
theorem dX11_greater_9 : decode cX11_greater 9 = .ok (.iload_n 1, 1) := by decide +kernel
theorem dX11_greater_10 : decode cX11_greater 10 = .ok (.ireturn, 1) := by decide +kernel
theorem dX11_most_0 : decode cX11_most 0 = .ok (.iload_n 1, 1) := by decide +kernel
theorem dX11_most_1 : decode cX11_most 1 = .ok (.invokestatic 110, 3) := by decide +kernel
theorem dX11_most_4 : decode cX11_most 4 = .ok (.ifCond .eq 14, 3) := by decide +kernel
theorem dX11_most_7 : decode cX11_most 7 = .ok (.iload_n 3, 1) := by decide +kernel
theorem dX11_most_8 : decode cX11_most 8 = .ok (.ifCond .lt 10, 3) := by decide +kernel
theorem dX11_most_11 : decode cX11_most 11 = .ok (.iload_n 3, 1) := by decide +kernel
theorem dX11_most_12 : decode cX11_most 12 = .ok (.sipush 2000, 3) := by decide +kernel
theorem dX11_most_15 : decode cX11_most 15 = .ok (.if_icmp .le 5, 3) := by decide +kernel
theorem dX11_most_18 : decode cX11_most 18 = .ok (.iconst (-1), 1) := by decide +kernel
theorem dX11_most_19 : decode cX11_most 19 = .ok (.ireturn, 1) := by decide +kernel
theorem dX11_most_20 : decode cX11_most 20 = .ok (.aload_n 0, 1) := by decide +kernel
theorem dX11_most_21 : decode cX11_most 21 = .ok (.iload_n 1, 1) := by decide +kernel
theorem dX11_most_22 : decode cX11_most 22 = .ok (.iload_n 2, 1) := by decide +kernel
theorem dX11_most_23 : decode cX11_most 23 = .ok (.invokevirtual 198, 3) := by decide +kernel
theorem dX11_most_26 : decode cX11_most 26 = .ok (.aload_n 0, 1) := by decide +kernel
theorem dX11_most_27 : decode cX11_most 27 = .ok (.invokevirtual 214, 3) := by decide +kernel
theorem dX11_most_30 : decode cX11_most 30 = .ok (.istore 4, 2) := by decide +kernel
theorem dX11_most_32 : decode cX11_most 32 = .ok (.aload_n 0, 1) := by decide +kernel
theorem dX11_most_33 : decode cX11_most 33 = .ok (.getfield 138, 3) := by decide +kernel
theorem dX11_most_36 : decode cX11_most 36 = .ok (.aload_n 0, 1) := by decide +kernel
theorem dX11_most_37 : decode cX11_most 37 = .ok (.getfield 13, 3) := by decide +kernel
theorem dX11_most_40 : decode cX11_most 40 = .ok (.iconst 0, 1) := by decide +kernel
theorem dX11_most_41 : decode cX11_most 41 = .ok (.iaload, 1) := by decide +kernel
theorem dX11_most_42 : decode cX11_most 42 = .ok (.if_icmp .ge 17, 3) := by decide +kernel
theorem dX11_most_45 : decode cX11_most 45 = .ok (.aload_n 0, 1) := by decide +kernel
theorem dX11_most_46 : decode cX11_most 46 = .ok (.getfield 13, 3) := by decide +kernel
theorem dX11_most_49 : decode cX11_most 49 = .ok (.iconst 0, 1) := by decide +kernel
theorem dX11_most_50 : decode cX11_most 50 = .ok (.iaload, 1) := by decide +kernel
theorem dX11_most_51 : decode cX11_most 51 = .ok (.aload_n 0, 1) := by decide +kernel
theorem dX11_most_52 : decode cX11_most 52 = .ok (.getfield 138, 3) := by decide +kernel
theorem dX11_most_55 : decode cX11_most 55 = .ok (.isub, 1) := by decide +kernel
theorem dX11_most_56 : decode cX11_most 56 = .ok (.goto 4, 3) := by decide +kernel
theorem dX11_most_59 : decode cX11_most 59 = .ok (.iconst 0, 1) := by decide +kernel
theorem dX11_most_60 : decode cX11_most 60 = .ok (.istore 5, 2) := by decide +kernel
theorem dX11_most_62 : decode cX11_most 62 = .ok (.aload_n 0, 1) := by decide +kernel
theorem dX11_most_63 : decode cX11_most 63 = .ok (.getfield 13, 3) := by decide +kernel
theorem dX11_most_66 : decode cX11_most 66 = .ok (.iconst 1, 1) := by decide +kernel
theorem dX11_most_67 : decode cX11_most 67 = .ok (.iaload, 1) := by decide +kernel
theorem dX11_most_68 : decode cX11_most 68 = .ok (.aload_n 0, 1) := by decide +kernel
theorem dX11_most_69 : decode cX11_most 69 = .ok (.getfield 13, 3) := by decide +kernel
theorem dX11_most_72 : decode cX11_most 72 = .ok (.iconst 3, 1) := by decide +kernel
theorem dX11_most_73 : decode cX11_most 73 = .ok (.iaload, 1) := by decide +kernel
theorem dX11_most_74 : decode cX11_most 74 = .ok (.invokestatic 218, 3) := by decide +kernel
theorem dX11_most_77 : decode cX11_most 77 = .ok (.istore 6, 2) := by decide +kernel
theorem dX11_most_79 : decode cX11_most 79 = .ok (.iload 4, 2) := by decide +kernel
theorem dX11_most_81 : decode cX11_most 81 = .ok (.ifCond .ne 37, 3) := by decide +kernel
theorem dX11_most_84 : decode cX11_most 84 = .ok (.aload_n 0, 1) := by decide +kernel
theorem dX11_most_85 : decode cX11_most 85 = .ok (.iload 5, 2) := by decide +kernel
theorem dX11_most_87 : decode cX11_most 87 = .ok (.aload_n 0, 1) := by decide +kernel
theorem dX11_most_88 : decode cX11_most 88 = .ok (.getfield 134, 3) := by decide +kernel
theorem dX11_most_91 : decode cX11_most 91 = .ok (.ifCond .eq 8, 3) := by decide +kernel
theorem dX11_most_94 : decode cX11_most 94 = .ok (.iload 6, 2) := by decide +kernel
theorem dX11_most_96 : decode cX11_most 96 = .ok (.goto 17, 3) := by decide +kernel
theorem dX11_most_99 : decode cX11_most 99 = .ok (.aload_n 0, 1) := by decide +kernel
theorem dX11_most_100 : decode cX11_most 100 = .ok (.iload 5, 2) := by decide +kernel
theorem dX11_most_102 : decode cX11_most 102 = .ok (.ifCond .le 7, 3) := by decide +kernel
theorem dX11_most_105 : decode cX11_most 105 = .ok (.iconst 1, 1) := by decide +kernel
theorem dX11_most_106 : decode cX11_most 106 = .ok (.goto 4, 3) := by decide +kernel
theorem dX11_most_109 : decode cX11_most 109 = .ok (.iconst 0, 1) := by decide +kernel
theorem dX11_most_110 : decode cX11_most 110 = .ok (.invokevirtual 221, 3) := by decide +kernel
theorem dX11_most_113 : decode cX11_most 113 = .ok (.iload_n 3, 1) := by decide +kernel
theorem dX11_most_114 : decode cX11_most 114 = .ok (.invokevirtual 225, 3) := by decide +kernel
theorem dX11_most_117 : decode cX11_most 117 = .ok (.ireturn, 1) := by decide +kernel
theorem dX11_most_118 : decode cX11_most 118 = .ok (.aload_n 0, 1) := by decide +kernel
theorem dX11_most_119 : decode cX11_most 119 = .ok (.iload 4, 2) := by decide +kernel
theorem dX11_most_121 : decode cX11_most 121 = .ok (.invokevirtual 144, 3) := by decide +kernel
theorem dX11_most_124 : decode cX11_most 124 = .ok (.ifCond .eq 34, 3) := by decide +kernel
theorem dX11_most_127 : decode cX11_most 127 = .ok (.aload_n 0, 1) := by decide +kernel
theorem dX11_most_128 : decode cX11_most 128 = .ok (.aload_n 0, 1) := by decide +kernel
theorem dX11_most_129 : decode cX11_most 129 = .ok (.getfield 13, 3) := by decide +kernel
theorem dX11_most_132 : decode cX11_most 132 = .ok (.iconst 0, 1) := by decide +kernel
theorem dX11_most_133 : decode cX11_most 133 = .ok (.iaload, 1) := by decide +kernel
theorem dX11_most_134 : decode cX11_most 134 = .ok (.aload_n 0, 1) := by decide +kernel
theorem dX11_most_135 : decode cX11_most 135 = .ok (.aload_n 0, 1) := by decide +kernel
theorem dX11_most_136 : decode cX11_most 136 = .ok (.getfield 13, 3) := by decide +kernel
theorem dX11_most_139 : decode cX11_most 139 = .ok (.iconst 0, 1) := by decide +kernel
theorem dX11_most_140 : decode cX11_most 140 = .ok (.iaload, 1) := by decide +kernel
theorem dX11_most_141 : decode cX11_most 141 = .ok (.iconst 1, 1) := by decide +kernel
theorem dX11_most_142 : decode cX11_most 142 = .ok (.if_icmp .le 7, 3) := by decide +kernel
theorem dX11_most_145 : decode cX11_most 145 = .ok (.iconst 1, 1) := by decide +kernel
theorem dX11_most_146 : decode cX11_most 146 = .ok (.goto 4, 3) := by decide +kernel
theorem dX11_most_149 : decode cX11_most 149 = .ok (.iconst 0, 1) := by decide +kernel
theorem dX11_most_150 : decode cX11_most 150 = .ok (.invokevirtual 221, 3) := by decide +kernel
theorem dX11_most_153 : decode cX11_most 153 = .ok (.iload_n 3, 1) := by decide +kernel
theorem dX11_most_154 : decode cX11_most 154 = .ok (.invokevirtual 225, 3) := by decide +kernel
theorem dX11_most_157 : decode cX11_most 157 = .ok (.ireturn, 1) := by decide +kernel
theorem dX11_most_158 : decode cX11_most 158 = .ok (.iload 5, 2) := by decide +kernel
theorem dX11_most_160 : decode cX11_most 160 = .ok (.ifCond .le 51, 3) := by decide +kernel
theorem dX11_most_163 : decode cX11_most 163 = .ok (.aload_n 0, 1) := by decide +kernel
theorem dX11_most_164 : decode cX11_most 164 = .ok (.iload 5, 2) := by decide +kernel
theorem dX11_most_166 : decode cX11_most 166 = .ok (.aload_n 0, 1) := by decide +kernel
theorem dX11_most_167 : decode cX11_most 167 = .ok (.getfield 134, 3) := by decide +kernel
theorem dX11_most_170 : decode cX11_most 170 = .ok (.ifCond .ne 14, 3) := by decide +kernel
theorem dX11_most_173 : decode cX11_most 173 = .ok (.iload 4, 2) := by decide +kernel
theorem dX11_most_175 : decode cX11_most 175 = .ok (.aload_n 0, 1) := by decide +kernel
theorem dX11_most_176 : decode cX11_most 176 = .ok (.getfield 13, 3) := by decide +kernel
theorem dX11_most_179 : decode cX11_most 179 = .ok (.iconst 2, 1) := by decide +kernel
theorem dX11_most_180 : decode cX11_most 180 = .ok (.iaload, 1) := by decide +kernel
theorem dX11_most_181 : decode cX11_most 181 = .ok (.if_icmp .lt 8, 3) := by decide +kernel
theorem dX11_most_184 : decode cX11_most 184 = .ok (.iload 6, 2) := by decide +kernel
theorem dX11_most_186 : decode cX11_most 186 = .ok (.goto 18, 3) := by decide +kernel
theorem dX11_most_189 : decode cX11_most 189 = .ok (.aload_n 0, 1) := by decide +kernel
theorem dX11_most_190 : decode cX11_most 190 = .ok (.iload 5, 2) := by decide +kernel
theorem dX11_most_192 : decode cX11_most 192 = .ok (.iconst 1, 1) := by decide +kernel
theorem dX11_most_193 : decode cX11_most 193 = .ok (.if_icmp .le 7, 3) := by decide +kernel
theorem dX11_most_196 : decode cX11_most 196 = .ok (.iconst 1, 1) := by decide +kernel
theorem dX11_most_197 : decode cX11_most 197 = .ok (.goto 4, 3) := by decide +kernel
theorem dX11_most_200 : decode cX11_most 200 = .ok (.iconst 0, 1) := by decide +kernel
theorem dX11_most_201 : decode cX11_most 201 = .ok (.invokevirtual 221, 3) := by decide +kernel
theorem dX11_most_204 : decode cX11_most 204 = .ok (.iload_n 3, 1) := by decide +kernel
theorem dX11_most_205 : decode cX11_most 205 = .ok (.invokevirtual 225, 3) := by decide +kernel
theorem dX11_most_208 : decode cX11_most 208 = .ok (.goto 4, 3) := by decide +kernel
theorem dX11_most_211 : decode cX11_most 211 = .ok (.iconst 0, 1) := by decide +kernel
theorem dX11_most_212 : decode cX11_most 212 = .ok (.istore 7, 2) := by decide +kernel
theorem dX11_most_214 : decode cX11_most 214 = .ok (.aload_n 0, 1) := by decide +kernel
theorem dX11_most_215 : decode cX11_most 215 = .ok (.getfield 134, 3) := by decide +kernel
theorem dX11_most_218 : decode cX11_most 218 = .ok (.ifCond .eq 8, 3) := by decide +kernel
theorem dX11_most_221 : decode cX11_most 221 = .ok (.iload 6, 2) := by decide +kernel
theorem dX11_most_223 : decode cX11_most 223 = .ok (.goto 9, 3) := by decide +kernel
theorem dX11_most_226 : decode cX11_most 226 = .ok (.aload_n 0, 1) := by decide +kernel
theorem dX11_most_227 : decode cX11_most 227 = .ok (.getfield 13, 3) := by decide +kernel
theorem dX11_most_230 : decode cX11_most 230 = .ok (.iconst 1, 1) := by decide +kernel
theorem dX11_most_231 : decode cX11_most 231 = .ok (.iaload, 1) := by decide +kernel
theorem dX11_most_232 : decode cX11_most 232 = .ok (.iload 4, 2) := by decide +kernel
theorem dX11_most_234 : decode cX11_most 234 = .ok (.isub, 1) := by decide +kernel
theorem dX11_most_235 : decode cX11_most 235 = .ok (.istore 8, 2) := by decide +kernel
theorem dX11_most_237 : decode cX11_most 237 = .ok (.iload 7, 2) := by decide +kernel
theorem dX11_most_239 : decode cX11_most 239 = .ok (.aload_n 0, 1) := by decide +kernel
theorem dX11_most_240 : decode cX11_most 240 = .ok (.aload_n 0, 1) := by decide +kernel
theorem dX11_most_241 : decode cX11_most 241 = .ok (.getfield 13, 3) := by decide +kernel
theorem dX11_most_244 : decode cX11_most 244 = .ok (.iconst 0, 1) := by decide +kernel
theorem dX11_most_245 : decode cX11_most 245 = .ok (.iaload, 1) := by decide +kernel
theorem dX11_most_246 : decode cX11_most 246 = .ok (.aload_n 0, 1) := by decide +kernel
theorem dX11_most_247 : decode cX11_most 247 = .ok (.aload_n 0, 1) := by decide +kernel
theorem dX11_most_248 : decode cX11_most 248 = .ok (.getfield 13, 3) := by decide +kernel
theorem dX11_most_251 : decode cX11_most 251 = .ok (.iconst 0, 1) := by decide +kernel
theorem dX11_most_252 : decode cX11_most 252 = .ok (.iaload, 1) := by decide +kernel
theorem dX11_most_253 : decode cX11_most 253 = .ok (.iconst 1, 1) := by decide +kernel
theorem dX11_most_254 : decode cX11_most 254 = .ok (.if_icmp .le 7, 3) := by decide +kernel
theorem dX11_most_257 : decode cX11_most 257 = .ok (.iconst 1, 1) := by decide +kernel
theorem dX11_most_258 : decode cX11_most 258 = .ok (.goto 4, 3) := by decide +kernel
theorem dX11_most_261 : decode cX11_most 261 = .ok (.iconst 0, 1) := by decide +kernel
theorem dX11_most_262 : decode cX11_most 262 = .ok (.invokevirtual 221, 3) := by decide +kernel
theorem dX11_most_265 : decode cX11_most 265 = .ok (.iload_n 3, 1) := by decide +kernel
theorem dX11_most_266 : decode cX11_most 266 = .ok (.iload 8, 2) := by decide +kernel
theorem dX11_most_268 : decode cX11_most 268 = .ok (.isub, 1) := by decide +kernel
theorem dX11_most_269 : decode cX11_most 269 = .ok (.invokevirtual 225, 3) := by decide +kernel
theorem dX11_most_272 : decode cX11_most 272 = .ok (.invokestatic 229, 3) := by decide +kernel
theorem dX11_most_275 : decode cX11_most 275 = .ok (.istore 7, 2) := by decide +kernel
theorem dX11_most_277 : decode cX11_most 277 = .ok (.aload_n 0, 1) := by decide +kernel
theorem dX11_most_278 : decode cX11_most 278 = .ok (.getfield 134, 3) := by decide +kernel
theorem dX11_most_281 : decode cX11_most 281 = .ok (.ifCond .ne 38, 3) := by decide +kernel
theorem dX11_most_284 : decode cX11_most 284 = .ok (.iload 4, 2) := by decide +kernel
theorem dX11_most_286 : decode cX11_most 286 = .ok (.aload_n 0, 1) := by decide +kernel
theorem dX11_most_287 : decode cX11_most 287 = .ok (.getfield 13, 3) := by decide +kernel
theorem dX11_most_290 : decode cX11_most 290 = .ok (.iconst 2, 1) := by decide +kernel
theorem dX11_most_291 : decode cX11_most 291 = .ok (.iaload, 1) := by decide +kernel
theorem dX11_most_292 : decode cX11_most 292 = .ok (.if_icmp .ge 27, 3) := by decide +kernel
theorem dX11_most_295 : decode cX11_most 295 = .ok (.aload_n 0, 1) := by decide +kernel
theorem dX11_most_296 : decode cX11_most 296 = .ok (.getfield 13, 3) := by decide +kernel
theorem dX11_most_299 : decode cX11_most 299 = .ok (.iconst 2, 1) := by decide +kernel
theorem dX11_most_300 : decode cX11_most 300 = .ok (.iaload, 1) := by decide +kernel
theorem dX11_most_301 : decode cX11_most 301 = .ok (.aload_n 0, 1) := by decide +kernel
theorem dX11_most_302 : decode cX11_most 302 = .ok (.getfield 13, 3) := by decide +kernel
theorem dX11_most_305 : decode cX11_most 305 = .ok (.iconst 1, 1) := by decide +kernel
theorem dX11_most_306 : decode cX11_most 306 = .ok (.iaload, 1) := by decide +kernel
theorem dX11_most_307 : decode cX11_most 307 = .ok (.if_icmp .ge 12, 3) := by decide +kernel
theorem dX11_most_310 : decode cX11_most 310 = .ok (.iload 5, 2) := by decide +kernel
theorem dX11_most_312 : decode cX11_most 312 = .ok (.ifCond .le 7, 3) := by decide +kernel
theorem dX11_most_315 : decode cX11_most 315 = .ok (.iconst 1, 1) := by decide +kernel
theorem dX11_most_316 : decode cX11_most 316 = .ok (.goto 4, 3) := by decide +kernel
theorem dX11_most_319 : decode cX11_most 319 = .ok (.iconst 0, 1) := by decide +kernel
theorem dX11_most_320 : decode cX11_most 320 = .ok (.istore 9, 2) := by decide +kernel
theorem dX11_most_322 : decode cX11_most 322 = .ok (.iload 9, 2) := by decide +kernel
theorem dX11_most_324 : decode cX11_most 324 = .ok (.ifCond .eq 30, 3) := by decide +kernel
theorem dX11_most_327 : decode cX11_most 327 = .ok (.iload 7, 2) := by decide +kernel
theorem dX11_most_329 : decode cX11_most 329 = .ok (.aload_n 0, 1) := by decide +kernel
theorem dX11_most_330 : decode cX11_most 330 = .ok (.iload 5, 2) := by decide +kernel
theorem dX11_most_332 : decode cX11_most 332 = .ok (.iload 6, 2) := by decide +kernel
theorem dX11_most_334 : decode cX11_most 334 = .ok (.iload_n 3, 1) := by decide +kernel
theorem dX11_most_335 : decode cX11_most 335 = .ok (.aload_n 0, 1) := by decide +kernel
theorem dX11_most_336 : decode cX11_most 336 = .ok (.getfield 13, 3) := by decide +kernel
theorem dX11_most_339 : decode cX11_most 339 = .ok (.iconst 2, 1) := by decide +kernel
theorem dX11_most_340 : decode cX11_most 340 = .ok (.iaload, 1) := by decide +kernel
theorem dX11_most_341 : decode cX11_most 341 = .ok (.isub, 1) := by decide +kernel
theorem dX11_most_342 : decode cX11_most 342 = .ok (.iload 4, 2) := by decide +kernel
theorem dX11_most_344 : decode cX11_most 344 = .ok (.iadd, 1) := by decide +kernel
theorem dX11_most_345 : decode cX11_most 345 = .ok (.invokevirtual 225, 3) := by decide +kernel
theorem dX11_most_348 : decode cX11_most 348 = .ok (.invokestatic 229, 3) := by decide +kernel
theorem dX11_most_351 : decode cX11_most 351 = .ok (.goto 5, 3) := by decide +kernel
theorem dX11_most_354 : decode cX11_most 354 = .ok (.iload 7, 2) := by decide +kernel
theorem dX11_most_356 : decode cX11_most 356 = .ok (.ireturn, 1) := by decide +kernel
theorem dX11_isOnTrip_0 : decode cX11_isOnTrip 0 = .ok (.bipush 20, 2) := by decide +kernel
theorem dX11_isOnTrip_2 : decode cX11_isOnTrip 2 = .ok (.iload_n 1, 1) := by decide +kernel
theorem dX11_isOnTrip_3 : decode cX11_isOnTrip 3 = .ok (.imul, 1) := by decide +kernel
theorem dX11_isOnTrip_4 : decode cX11_isOnTrip 4 = .ok (.istore_n 3, 1) := by decide +kernel
theorem dX11_isOnTrip_5 : decode cX11_isOnTrip 5 = .ok (.iload_n 3, 1) := by decide +kernel
theorem dX11_isOnTrip_6 : decode cX11_isOnTrip 6 = .ok (.bipush 20, 2) := by decide +kernel
theorem dX11_isOnTrip_8 : decode cX11_isOnTrip 8 = .ok (.iload_n 1, 1) := by decide +kernel
theorem dX11_isOnTrip_9 : decode cX11_isOnTrip 9 = .ok (.imul, 1) := by decide +kernel
theorem dX11_isOnTrip_10 : decode cX11_isOnTrip 10 = .ok (.aload_n 0, 1) := by decide +kernel
theorem dX11_isOnTrip_11 : decode cX11_isOnTrip 11 = .ok (.getfield 35, 3) := by decide +kernel
theorem dX11_isOnTrip_14 : decode cX11_isOnTrip 14 = .ok (.iload_n 1, 1) := by decide +kernel
theorem dX11_isOnTrip_15 : decode cX11_isOnTrip 15 = .ok (.iaload, 1) := by decide +kernel
theorem dX11_isOnTrip_16 : decode cX11_isOnTrip 16 = .ok (.iadd, 1) := by decide +kernel
theorem dX11_isOnTrip_17 : decode cX11_isOnTrip 17 = .ok (.if_icmp .ge 31, 3) := by decide +kernel
theorem dX11_isOnTrip_20 : decode cX11_isOnTrip 20 = .ok (.iload_n 2, 1) := by decide +kernel
theorem dX11_isOnTrip_21 : decode cX11_isOnTrip 21 = .ok (.aload_n 0, 1) := by decide +kernel
theorem dX11_isOnTrip_22 : decode cX11_isOnTrip 22 = .ok (.getfield 38, 3) := by decide +kernel
theorem dX11_isOnTrip_25 : decode cX11_isOnTrip 25 = .ok (.iload_n 3, 1) := by decide +kernel
theorem dX11_isOnTrip_26 : decode cX11_isOnTrip 26 = .ok (.iaload, 1) := by decide +kernel
theorem dX11_isOnTrip_27 : decode cX11_isOnTrip 27 = .ok (.if_icmp .lt 15, 3) := by decide +kernel
theorem dX11_isOnTrip_30 : decode cX11_isOnTrip 30 = .ok (.iload_n 2, 1) := by decide +kernel
theorem dX11_isOnTrip_31 : decode cX11_isOnTrip 31 = .ok (.aload_n 0, 1) := by decide +kernel
theorem dX11_isOnTrip_32 : decode cX11_isOnTrip 32 = .ok (.getfield 41, 3) := by decide +kernel
theorem dX11_isOnTrip_35 : decode cX11_isOnTrip 35 = .ok (.iload_n 3, 1) := by decide +kernel
theorem dX11_isOnTrip_36 : decode cX11_isOnTrip 36 = .ok (.iaload, 1) := by decide +kernel
theorem dX11_isOnTrip_37 : decode cX11_isOnTrip 37 = .ok (.if_icmp .ge 5, 3) := by decide +kernel
theorem dX11_isOnTrip_40 : decode cX11_isOnTrip 40 = .ok (.iconst 1, 1) := by decide +kernel
theorem dX11_isOnTrip_41 : decode cX11_isOnTrip 41 = .ok (.ireturn, 1) := by decide +kernel
theorem dX11_isOnTrip_42 : decode cX11_isOnTrip 42 = .ok (.iinc 3 1, 3) := by decide +kernel
theorem dX11_isOnTrip_45 : decode cX11_isOnTrip 45 = .ok (.goto (-40), 3) := by decide +kernel
theorem dX11_isOnTrip_48 : decode cX11_isOnTrip 48 = .ok (.iconst 0, 1) := by decide +kernel
theorem dX11_isOnTrip_49 : decode cX11_isOnTrip 49 = .ok (.ireturn, 1) := by decide +kernel
theorem dX11_against_0 : decode cX11_against 0 = .ok (.iload_n 1, 1) := by decide +kernel
theorem dX11_against_1 : decode cX11_against 1 = .ok (.ifCond .lt 17, 3) := by decide +kernel
theorem dX11_against_4 : decode cX11_against 4 = .ok (.iload_n 1, 1) := by decide +kernel
theorem dX11_against_5 : decode cX11_against 5 = .ok (.iconst 1, 1) := by decide +kernel
theorem dX11_against_6 : decode cX11_against 6 = .ok (.if_icmp .gt 12, 3) := by decide +kernel
theorem dX11_against_9 : decode cX11_against 9 = .ok (.iload_n 2, 1) := by decide +kernel
theorem dX11_against_10 : decode cX11_against 10 = .ok (.ifCond .lt 8, 3) := by decide +kernel
theorem dX11_against_13 : decode cX11_against 13 = .ok (.iload_n 2, 1) := by decide +kernel
theorem dX11_against_14 : decode cX11_against 14 = .ok (.iconst 2, 1) := by decide +kernel
theorem dX11_against_15 : decode cX11_against 15 = .ok (.if_icmp .le 5, 3) := by decide +kernel
theorem dX11_against_18 : decode cX11_against 18 = .ok (.iconst (-1), 1) := by decide +kernel
theorem dX11_against_19 : decode cX11_against 19 = .ok (.ireturn, 1) := by decide +kernel
theorem dX11_against_20 : decode cX11_against 20 = .ok (.iconst 0, 1) := by decide +kernel
theorem dX11_against_21 : decode cX11_against 21 = .ok (.istore_n 3, 1) := by decide +kernel
theorem dX11_against_22 : decode cX11_against 22 = .ok (.iload_n 3, 1) := by decide +kernel
theorem dX11_against_23 : decode cX11_against 23 = .ok (.sipush 20160, 3) := by decide +kernel
theorem dX11_against_26 : decode cX11_against 26 = .ok (.if_icmp .ge 16, 3) := by decide +kernel
theorem dX11_against_29 : decode cX11_against 29 = .ok (.aload_n 0, 1) := by decide +kernel
theorem dX11_against_30 : decode cX11_against 30 = .ok (.getfield 81, 3) := by decide +kernel
theorem dX11_against_33 : decode cX11_against 33 = .ok (.iload_n 3, 1) := by decide +kernel
theorem dX11_against_34 : decode cX11_against 34 = .ok (.iconst 0, 1) := by decide +kernel
theorem dX11_against_35 : decode cX11_against 35 = .ok (.iastore, 1) := by decide +kernel
theorem dX11_against_36 : decode cX11_against 36 = .ok (.iinc 3 1, 3) := by decide +kernel
theorem dX11_against_39 : decode cX11_against 39 = .ok (.goto (-17), 3) := by decide +kernel
theorem dX11_against_42 : decode cX11_against 42 = .ok (.iconst 0, 1) := by decide +kernel
theorem dX11_against_43 : decode cX11_against 43 = .ok (.istore_n 3, 1) := by decide +kernel
theorem dX11_against_44 : decode cX11_against 44 = .ok (.iload_n 3, 1) := by decide +kernel
theorem dX11_against_45 : decode cX11_against 45 = .ok (.iconst 4, 1) := by decide +kernel
theorem dX11_against_46 : decode cX11_against 46 = .ok (.if_icmp .ge 115, 3) := by decide +kernel
theorem dX11_against_49 : decode cX11_against 49 = .ok (.iconst 0, 1) := by decide +kernel
theorem dX11_against_50 : decode cX11_against 50 = .ok (.istore 4, 2) := by decide +kernel
theorem dX11_against_52 : decode cX11_against 52 = .ok (.iconst 0, 1) := by decide +kernel
theorem dX11_against_53 : decode cX11_against 53 = .ok (.istore 5, 2) := by decide +kernel
theorem dX11_against_55 : decode cX11_against 55 = .ok (.iload 5, 2) := by decide +kernel
theorem dX11_against_57 : decode cX11_against 57 = .ok (.aload_n 0, 1) := by decide +kernel
theorem dX11_against_58 : decode cX11_against 58 = .ok (.getfield 20, 3) := by decide +kernel
theorem dX11_against_61 : decode cX11_against 61 = .ok (.iload_n 3, 1) := by decide +kernel
theorem dX11_against_62 : decode cX11_against 62 = .ok (.iaload, 1) := by decide +kernel
theorem dX11_against_63 : decode cX11_against 63 = .ok (.if_icmp .ge 92, 3) := by decide +kernel
theorem dX11_against_66 : decode cX11_against 66 = .ok (.bipush 60, 2) := by decide +kernel
theorem dX11_against_68 : decode cX11_against 68 = .ok (.iload_n 3, 1) := by decide +kernel
theorem dX11_against_69 : decode cX11_against 69 = .ok (.imul, 1) := by decide +kernel
theorem dX11_against_70 : decode cX11_against 70 = .ok (.iload 5, 2) := by decide +kernel
theorem dX11_against_72 : decode cX11_against 72 = .ok (.iadd, 1) := by decide +kernel
theorem dX11_against_73 : decode cX11_against 73 = .ok (.istore 6, 2) := by decide +kernel
theorem dX11_against_75 : decode cX11_against 75 = .ok (.iload 4, 2) := by decide +kernel
theorem dX11_against_77 : decode cX11_against 77 = .ok (.istore 7, 2) := by decide +kernel
theorem dX11_against_79 : decode cX11_against 79 = .ok (.iload 7, 2) := by decide +kernel
theorem dX11_against_81 : decode cX11_against 81 = .ok (.iload 4, 2) := by decide +kernel
theorem dX11_against_83 : decode cX11_against 83 = .ok (.aload_n 0, 1) := by decide +kernel
theorem dX11_against_84 : decode cX11_against 84 = .ok (.getfield 29, 3) := by decide +kernel
theorem dX11_against_87 : decode cX11_against 87 = .ok (.iload 6, 2) := by decide +kernel
theorem dX11_against_89 : decode cX11_against 89 = .ok (.iaload, 1) := by decide +kernel
theorem dX11_against_90 : decode cX11_against 90 = .ok (.iadd, 1) := by decide +kernel
theorem dX11_against_91 : decode cX11_against 91 = .ok (.if_icmp .ge 46, 3) := by decide +kernel
theorem dX11_against_94 : decode cX11_against 94 = .ok (.aload_n 0, 1) := by decide +kernel
theorem dX11_against_95 : decode cX11_against 95 = .ok (.getfield 26, 3) := by decide +kernel
theorem dX11_against_98 : decode cX11_against 98 = .ok (.iload 6, 2) := by decide +kernel
theorem dX11_against_100 : decode cX11_against 100 = .ok (.iaload, 1) := by decide +kernel
theorem dX11_against_101 : decode cX11_against 101 = .ok (.ifCond .ne 36, 3) := by decide +kernel
theorem dX11_against_104 : decode cX11_against 104 = .ok (.aload_n 0, 1) := by decide +kernel
theorem dX11_against_105 : decode cX11_against 105 = .ok (.getfield 32, 3) := by decide +kernel
theorem dX11_against_108 : decode cX11_against 108 = .ok (.iload 6, 2) := by decide +kernel
theorem dX11_against_110 : decode cX11_against 110 = .ok (.iaload, 1) := by decide +kernel
theorem dX11_against_111 : decode cX11_against 111 = .ok (.iload_n 1, 1) := by decide +kernel
theorem dX11_against_112 : decode cX11_against 112 = .ok (.if_icmp .ne 25, 3) := by decide +kernel
theorem dX11_against_115 : decode cX11_against 115 = .ok (.aload_n 0, 1) := by decide +kernel
theorem dX11_against_116 : decode cX11_against 116 = .ok (.getfield 81, 3) := by decide +kernel
theorem dX11_against_119 : decode cX11_against 119 = .ok (.iload 7, 2) := by decide +kernel
theorem dX11_against_121 : decode cX11_against 121 = .ok (.aload_n 0, 1) := by decide +kernel
theorem dX11_against_122 : decode cX11_against 122 = .ok (.getfield 81, 3) := by decide +kernel
theorem dX11_against_125 : decode cX11_against 125 = .ok (.iload 7, 2) := by decide +kernel
theorem dX11_against_127 : decode cX11_against 127 = .ok (.iaload, 1) := by decide +kernel
theorem dX11_against_128 : decode cX11_against 128 = .ok (.iconst 1, 1) := by decide +kernel
theorem dX11_against_129 : decode cX11_against 129 = .ok (.iadd, 1) := by decide +kernel
theorem dX11_against_130 : decode cX11_against 130 = .ok (.iastore, 1) := by decide +kernel
theorem dX11_against_131 : decode cX11_against 131 = .ok (.iinc 7 1, 3) := by decide +kernel
theorem dX11_against_134 : decode cX11_against 134 = .ok (.goto (-55), 3) := by decide +kernel
theorem dX11_against_137 : decode cX11_against 137 = .ok (.iload 4, 2) := by decide +kernel
theorem dX11_against_139 : decode cX11_against 139 = .ok (.aload_n 0, 1) := by decide +kernel
theorem dX11_against_140 : decode cX11_against 140 = .ok (.getfield 29, 3) := by decide +kernel
theorem dX11_against_143 : decode cX11_against 143 = .ok (.iload 6, 2) := by decide +kernel
theorem dX11_against_145 : decode cX11_against 145 = .ok (.iaload, 1) := by decide +kernel
theorem dX11_against_146 : decode cX11_against 146 = .ok (.iadd, 1) := by decide +kernel
theorem dX11_against_147 : decode cX11_against 147 = .ok (.istore 4, 2) := by decide +kernel
theorem dX11_against_149 : decode cX11_against 149 = .ok (.iinc 5 1, 3) := by decide +kernel
theorem dX11_against_152 : decode cX11_against 152 = .ok (.goto (-97), 3) := by decide +kernel
theorem dX11_against_155 : decode cX11_against 155 = .ok (.iinc 3 1, 3) := by decide +kernel
theorem dX11_against_158 : decode cX11_against 158 = .ok (.goto (-114), 3) := by decide +kernel
theorem dX11_against_161 : decode cX11_against 161 = .ok (.iconst 0, 1) := by decide +kernel
theorem dX11_against_162 : decode cX11_against 162 = .ok (.istore_n 3, 1) := by decide +kernel
theorem dX11_against_163 : decode cX11_against 163 = .ok (.iconst 0, 1) := by decide +kernel
theorem dX11_against_164 : decode cX11_against 164 = .ok (.istore 4, 2) := by decide +kernel
theorem dX11_against_166 : decode cX11_against 166 = .ok (.iload 4, 2) := by decide +kernel
theorem dX11_against_168 : decode cX11_against 168 = .ok (.sipush 20160, 3) := by decide +kernel
theorem dX11_against_171 : decode cX11_against 171 = .ok (.if_icmp .ge 105, 3) := by decide +kernel
theorem dX11_against_174 : decode cX11_against 174 = .ok (.iload_n 2, 1) := by decide +kernel
theorem dX11_against_175 : decode cX11_against 175 = .ok (.iconst 1, 1) := by decide +kernel
theorem dX11_against_176 : decode cX11_against 176 = .ok (.if_icmp .ne 22, 3) := by decide +kernel
theorem dX11_against_179 : decode cX11_against 179 = .ok (.aload_n 0, 1) := by decide +kernel
theorem dX11_against_180 : decode cX11_against 180 = .ok (.getfield 81, 3) := by decide +kernel
theorem dX11_against_183 : decode cX11_against 183 = .ok (.iload 4, 2) := by decide +kernel
theorem dX11_against_185 : decode cX11_against 185 = .ok (.iaload, 1) := by decide +kernel
theorem dX11_against_186 : decode cX11_against 186 = .ok (.iconst 2, 1) := by decide +kernel
theorem dX11_against_187 : decode cX11_against 187 = .ok (.if_icmp .lt 7, 3) := by decide +kernel
theorem dX11_against_190 : decode cX11_against 190 = .ok (.iconst 1, 1) := by decide +kernel
theorem dX11_against_191 : decode cX11_against 191 = .ok (.goto 64, 3) := by decide +kernel
theorem dX11_against_194 : decode cX11_against 194 = .ok (.iconst 0, 1) := by decide +kernel
theorem dX11_against_195 : decode cX11_against 195 = .ok (.goto 60, 3) := by decide +kernel
theorem dX11_against_198 : decode cX11_against 198 = .ok (.iload_n 2, 1) := by decide +kernel
theorem dX11_against_199 : decode cX11_against 199 = .ok (.ifCond .ne 31, 3) := by decide +kernel
theorem dX11_against_202 : decode cX11_against 202 = .ok (.aload_n 0, 1) := by decide +kernel
theorem dX11_against_203 : decode cX11_against 203 = .ok (.getfield 81, 3) := by decide +kernel
theorem dX11_against_206 : decode cX11_against 206 = .ok (.iload 4, 2) := by decide +kernel
theorem dX11_against_208 : decode cX11_against 208 = .ok (.iaload, 1) := by decide +kernel
theorem dX11_against_209 : decode cX11_against 209 = .ok (.ifCond .ne 17, 3) := by decide +kernel
theorem dX11_against_212 : decode cX11_against 212 = .ok (.aload_n 0, 1) := by decide +kernel
theorem dX11_against_213 : decode cX11_against 213 = .ok (.iload_n 1, 1) := by decide +kernel
theorem dX11_against_214 : decode cX11_against 214 = .ok (.iload 4, 2) := by decide +kernel
theorem dX11_against_216 : decode cX11_against 216 = .ok (.invokevirtual 232, 3) := by decide +kernel
theorem dX11_against_219 : decode cX11_against 219 = .ok (.ifCond .eq 7, 3) := by decide +kernel
theorem dX11_against_222 : decode cX11_against 222 = .ok (.iconst 1, 1) := by decide +kernel
theorem dX11_against_223 : decode cX11_against 223 = .ok (.goto 32, 3) := by decide +kernel
theorem dX11_against_226 : decode cX11_against 226 = .ok (.iconst 0, 1) := by decide +kernel
theorem dX11_against_227 : decode cX11_against 227 = .ok (.goto 28, 3) := by decide +kernel
theorem dX11_against_230 : decode cX11_against 230 = .ok (.aload_n 0, 1) := by decide +kernel
theorem dX11_against_231 : decode cX11_against 231 = .ok (.getfield 81, 3) := by decide +kernel
theorem dX11_against_234 : decode cX11_against 234 = .ok (.iload 4, 2) := by decide +kernel
theorem dX11_against_236 : decode cX11_against 236 = .ok (.iaload, 1) := by decide +kernel
theorem dX11_against_237 : decode cX11_against 237 = .ok (.ifCond .le 17, 3) := by decide +kernel
theorem dX11_against_240 : decode cX11_against 240 = .ok (.aload_n 0, 1) := by decide +kernel
theorem dX11_against_241 : decode cX11_against 241 = .ok (.iload_n 1, 1) := by decide +kernel
theorem dX11_against_242 : decode cX11_against 242 = .ok (.iload 4, 2) := by decide +kernel
theorem dX11_against_244 : decode cX11_against 244 = .ok (.invokevirtual 232, 3) := by decide +kernel
theorem dX11_against_247 : decode cX11_against 247 = .ok (.ifCond .ne 7, 3) := by decide +kernel
theorem dX11_against_250 : decode cX11_against 250 = .ok (.iconst 1, 1) := by decide +kernel
theorem dX11_against_251 : decode cX11_against 251 = .ok (.goto 4, 3) := by decide +kernel
theorem dX11_against_254 : decode cX11_against 254 = .ok (.iconst 0, 1) := by decide +kernel
theorem dX11_against_255 : decode cX11_against 255 = .ok (.istore 5, 2) := by decide +kernel
theorem dX11_against_257 : decode cX11_against 257 = .ok (.iload_n 3, 1) := by decide +kernel
theorem dX11_against_258 : decode cX11_against 258 = .ok (.iload 5, 2) := by decide +kernel
theorem dX11_against_260 : decode cX11_against 260 = .ok (.ifCond .eq 7, 3) := by decide +kernel
theorem dX11_against_263 : decode cX11_against 263 = .ok (.iconst 1, 1) := by decide +kernel
theorem dX11_against_264 : decode cX11_against 264 = .ok (.goto 4, 3) := by decide +kernel
theorem dX11_against_267 : decode cX11_against 267 = .ok (.iconst 0, 1) := by decide +kernel
theorem dX11_against_268 : decode cX11_against 268 = .ok (.iadd, 1) := by decide +kernel
theorem dX11_against_269 : decode cX11_against 269 = .ok (.istore_n 3, 1) := by decide +kernel
theorem dX11_against_270 : decode cX11_against 270 = .ok (.iinc 4 1, 3) := by decide +kernel
theorem dX11_against_273 : decode cX11_against 273 = .ok (.goto (-107), 3) := by decide +kernel
theorem dX11_against_276 : decode cX11_against 276 = .ok (.iload_n 3, 1) := by decide +kernel
theorem dX11_against_277 : decode cX11_against 277 = .ok (.ireturn, 1) := by decide +kernel
theorem dX11_look_0 : decode cX11_look 0 = .ok (.iload_n 1, 1) := by decide +kernel
theorem dX11_look_1 : decode cX11_look 1 = .ok (.invokestatic 110, 3) := by decide +kernel
theorem dX11_look_4 : decode cX11_look 4 = .ok (.ifCond .eq 17, 3) := by decide +kernel
theorem dX11_look_7 : decode cX11_look 7 = .ok (.iload_n 2, 1) := by decide +kernel
theorem dX11_look_8 : decode cX11_look 8 = .ok (.ifCond .lt 13, 3) := by decide +kernel
theorem dX11_look_11 : decode cX11_look 11 = .ok (.iload_n 2, 1) := by decide +kernel
theorem dX11_look_12 : decode cX11_look 12 = .ok (.aload_n 0, 1) := by decide +kernel
theorem dX11_look_13 : decode cX11_look 13 = .ok (.getfield 20, 3) := by decide +kernel
theorem dX11_look_16 : decode cX11_look 16 = .ok (.iload_n 1, 1) := by decide +kernel
theorem dX11_look_17 : decode cX11_look 17 = .ok (.iaload, 1) := by decide +kernel
theorem dX11_look_18 : decode cX11_look 18 = .ok (.if_icmp .lt 5, 3) := by decide +kernel
theorem dX11_look_21 : decode cX11_look 21 = .ok (.iconst (-1), 1) := by decide +kernel
theorem dX11_look_22 : decode cX11_look 22 = .ok (.ireturn, 1) := by decide +kernel
theorem dX11_look_23 : decode cX11_look 23 = .ok (.bipush 60, 2) := by decide +kernel
theorem dX11_look_25 : decode cX11_look 25 = .ok (.iload_n 1, 1) := by decide +kernel
theorem dX11_look_26 : decode cX11_look 26 = .ok (.imul, 1) := by decide +kernel
theorem dX11_look_27 : decode cX11_look 27 = .ok (.iload_n 2, 1) := by decide +kernel
theorem dX11_look_28 : decode cX11_look 28 = .ok (.iadd, 1) := by decide +kernel
theorem dX11_look_29 : decode cX11_look 29 = .ok (.istore 4, 2) := by decide +kernel
theorem dX11_look_31 : decode cX11_look 31 = .ok (.iconst 0, 1) := by decide +kernel
theorem dX11_look_32 : decode cX11_look 32 = .ok (.istore 5, 2) := by decide +kernel
theorem dX11_look_34 : decode cX11_look 34 = .ok (.bipush 60, 2) := by decide +kernel
theorem dX11_look_36 : decode cX11_look 36 = .ok (.iload_n 1, 1) := by decide +kernel
theorem dX11_look_37 : decode cX11_look 37 = .ok (.imul, 1) := by decide +kernel
theorem dX11_look_38 : decode cX11_look 38 = .ok (.istore 6, 2) := by decide +kernel
theorem dX11_look_40 : decode cX11_look 40 = .ok (.iload 6, 2) := by decide +kernel
theorem dX11_look_42 : decode cX11_look 42 = .ok (.iload 4, 2) := by decide +kernel
theorem dX11_look_44 : decode cX11_look 44 = .ok (.if_icmp .ge 21, 3) := by decide +kernel
theorem dX11_look_47 : decode cX11_look 47 = .ok (.iload 5, 2) := by decide +kernel
theorem dX11_look_49 : decode cX11_look 49 = .ok (.aload_n 0, 1) := by decide +kernel
theorem dX11_look_50 : decode cX11_look 50 = .ok (.getfield 29, 3) := by decide +kernel
theorem dX11_look_53 : decode cX11_look 53 = .ok (.iload 6, 2) := by decide +kernel
theorem dX11_look_55 : decode cX11_look 55 = .ok (.iaload, 1) := by decide +kernel
theorem dX11_look_56 : decode cX11_look 56 = .ok (.iadd, 1) := by decide +kernel
theorem dX11_look_57 : decode cX11_look 57 = .ok (.istore 5, 2) := by decide +kernel
theorem dX11_look_59 : decode cX11_look 59 = .ok (.iinc 6 1, 3) := by decide +kernel
theorem dX11_look_62 : decode cX11_look 62 = .ok (.goto (-22), 3) := by decide +kernel
theorem dX11_look_65 : decode cX11_look 65 = .ok (.iload_n 3, 1) := by decide +kernel
theorem dX11_look_66 : decode cX11_look 66 = .ok (.ifCond .ne 13, 3) := by decide +kernel
theorem dX11_look_69 : decode cX11_look 69 = .ok (.aload_n 0, 1) := by decide +kernel
theorem dX11_look_70 : decode cX11_look 70 = .ok (.getfield 26, 3) := by decide +kernel
theorem dX11_look_73 : decode cX11_look 73 = .ok (.iload 4, 2) := by decide +kernel
theorem dX11_look_75 : decode cX11_look 75 = .ok (.iaload, 1) := by decide +kernel
theorem dX11_look_76 : decode cX11_look 76 = .ok (.goto 44, 3) := by decide +kernel
theorem dX11_look_79 : decode cX11_look 79 = .ok (.iload_n 3, 1) := by decide +kernel
theorem dX11_look_80 : decode cX11_look 80 = .ok (.iconst 1, 1) := by decide +kernel
theorem dX11_look_81 : decode cX11_look 81 = .ok (.if_icmp .ne 13, 3) := by decide +kernel
theorem dX11_look_84 : decode cX11_look 84 = .ok (.aload_n 0, 1) := by decide +kernel
theorem dX11_look_85 : decode cX11_look 85 = .ok (.getfield 29, 3) := by decide +kernel
theorem dX11_look_88 : decode cX11_look 88 = .ok (.iload 4, 2) := by decide +kernel
theorem dX11_look_90 : decode cX11_look 90 = .ok (.iaload, 1) := by decide +kernel
theorem dX11_look_91 : decode cX11_look 91 = .ok (.goto 29, 3) := by decide +kernel
theorem dX11_look_94 : decode cX11_look 94 = .ok (.iload_n 3, 1) := by decide +kernel
theorem dX11_look_95 : decode cX11_look 95 = .ok (.iconst 2, 1) := by decide +kernel
theorem dX11_look_96 : decode cX11_look 96 = .ok (.if_icmp .ne 8, 3) := by decide +kernel
theorem dX11_look_99 : decode cX11_look 99 = .ok (.iload 5, 2) := by decide +kernel
theorem dX11_look_101 : decode cX11_look 101 = .ok (.goto 19, 3) := by decide +kernel
theorem dX11_look_104 : decode cX11_look 104 = .ok (.iload_n 3, 1) := by decide +kernel
theorem dX11_look_105 : decode cX11_look 105 = .ok (.iconst 3, 1) := by decide +kernel
theorem dX11_look_106 : decode cX11_look 106 = .ok (.if_icmp .ne 13, 3) := by decide +kernel
theorem dX11_look_109 : decode cX11_look 109 = .ok (.aload_n 0, 1) := by decide +kernel
theorem dX11_look_110 : decode cX11_look 110 = .ok (.getfield 32, 3) := by decide +kernel
theorem dX11_look_113 : decode cX11_look 113 = .ok (.iload 4, 2) := by decide +kernel
theorem dX11_look_115 : decode cX11_look 115 = .ok (.iaload, 1) := by decide +kernel
theorem dX11_look_116 : decode cX11_look 116 = .ok (.goto 4, 3) := by decide +kernel
theorem dX11_look_119 : decode cX11_look 119 = .ok (.iconst (-1), 1) := by decide +kernel
theorem dX11_look_120 : decode cX11_look 120 = .ok (.ireturn, 1) := by decide +kernel
theorem dX11_count_0 : decode cX11_count 0 = .ok (.iload_n 1, 1) := by decide +kernel
theorem dX11_count_1 : decode cX11_count 1 = .ok (.iconst (-1), 1) := by decide +kernel
theorem dX11_count_2 : decode cX11_count 2 = .ok (.if_icmp .ne 44, 3) := by decide +kernel
theorem dX11_count_5 : decode cX11_count 5 = .ok (.iload_n 2, 1) := by decide +kernel
theorem dX11_count_6 : decode cX11_count 6 = .ok (.ifCond .ne 10, 3) := by decide +kernel
theorem dX11_count_9 : decode cX11_count 9 = .ok (.aload_n 0, 1) := by decide +kernel
theorem dX11_count_10 : decode cX11_count 10 = .ok (.getfield 88, 3) := by decide +kernel
theorem dX11_count_13 : decode cX11_count 13 = .ok (.goto 32, 3) := by decide +kernel
theorem dX11_count_16 : decode cX11_count 16 = .ok (.iload_n 2, 1) := by decide +kernel
theorem dX11_count_17 : decode cX11_count 17 = .ok (.iconst 1, 1) := by decide +kernel
theorem dX11_count_18 : decode cX11_count 18 = .ok (.if_icmp .ne 12, 3) := by decide +kernel
theorem dX11_count_21 : decode cX11_count 21 = .ok (.aload_n 0, 1) := by decide +kernel
theorem dX11_count_22 : decode cX11_count 22 = .ok (.getfield 35, 3) := by decide +kernel
theorem dX11_count_25 : decode cX11_count 25 = .ok (.iconst 0, 1) := by decide +kernel
theorem dX11_count_26 : decode cX11_count 26 = .ok (.iaload, 1) := by decide +kernel
theorem dX11_count_27 : decode cX11_count 27 = .ok (.goto 18, 3) := by decide +kernel
theorem dX11_count_30 : decode cX11_count 30 = .ok (.iload_n 2, 1) := by decide +kernel
theorem dX11_count_31 : decode cX11_count 31 = .ok (.iconst 2, 1) := by decide +kernel
theorem dX11_count_32 : decode cX11_count 32 = .ok (.if_icmp .ne 12, 3) := by decide +kernel
theorem dX11_count_35 : decode cX11_count 35 = .ok (.aload_n 0, 1) := by decide +kernel
theorem dX11_count_36 : decode cX11_count 36 = .ok (.getfield 35, 3) := by decide +kernel
theorem dX11_count_39 : decode cX11_count 39 = .ok (.iconst 1, 1) := by decide +kernel
theorem dX11_count_40 : decode cX11_count 40 = .ok (.iaload, 1) := by decide +kernel
theorem dX11_count_41 : decode cX11_count 41 = .ok (.goto 4, 3) := by decide +kernel
theorem dX11_count_44 : decode cX11_count 44 = .ok (.iconst (-1), 1) := by decide +kernel
theorem dX11_count_45 : decode cX11_count 45 = .ok (.ireturn, 1) := by decide +kernel
theorem dX11_count_46 : decode cX11_count 46 = .ok (.iload_n 1, 1) := by decide +kernel
theorem dX11_count_47 : decode cX11_count 47 = .ok (.invokestatic 110, 3) := by decide +kernel
theorem dX11_count_50 : decode cX11_count 50 = .ok (.ifCond .ne 5, 3) := by decide +kernel
theorem dX11_count_53 : decode cX11_count 53 = .ok (.iconst (-1), 1) := by decide +kernel
theorem dX11_count_54 : decode cX11_count 54 = .ok (.ireturn, 1) := by decide +kernel
theorem dX11_count_55 : decode cX11_count 55 = .ok (.aload_n 0, 1) := by decide +kernel
theorem dX11_count_56 : decode cX11_count 56 = .ok (.iload_n 1, 1) := by decide +kernel
theorem dX11_count_57 : decode cX11_count 57 = .ok (.iconst 0, 1) := by decide +kernel
theorem dX11_count_58 : decode cX11_count 58 = .ok (.invokevirtual 198, 3) := by decide +kernel
theorem dX11_count_61 : decode cX11_count 61 = .ok (.iconst 0, 1) := by decide +kernel
theorem dX11_count_62 : decode cX11_count 62 = .ok (.istore_n 3, 1) := by decide +kernel
theorem dX11_count_63 : decode cX11_count 63 = .ok (.iconst 0, 1) := by decide +kernel
theorem dX11_count_64 : decode cX11_count 64 = .ok (.istore 4, 2) := by decide +kernel
theorem dX11_count_66 : decode cX11_count 66 = .ok (.iload 4, 2) := by decide +kernel
theorem dX11_count_68 : decode cX11_count 68 = .ok (.aload_n 0, 1) := by decide +kernel
theorem dX11_count_69 : decode cX11_count 69 = .ok (.getfield 128, 3) := by decide +kernel
theorem dX11_count_72 : decode cX11_count 72 = .ok (.if_icmp .ge 30, 3) := by decide +kernel
theorem dX11_count_75 : decode cX11_count 75 = .ok (.aload_n 0, 1) := by decide +kernel
theorem dX11_count_76 : decode cX11_count 76 = .ok (.iload 4, 2) := by decide +kernel
theorem dX11_count_78 : decode cX11_count 78 = .ok (.invokevirtual 141, 3) := by decide +kernel
theorem dX11_count_81 : decode cX11_count 81 = .ok (.iload_n 3, 1) := by decide +kernel
theorem dX11_count_82 : decode cX11_count 82 = .ok (.if_icmp .le 12, 3) := by decide +kernel
theorem dX11_count_85 : decode cX11_count 85 = .ok (.aload_n 0, 1) := by decide +kernel
theorem dX11_count_86 : decode cX11_count 86 = .ok (.iload 4, 2) := by decide +kernel
theorem dX11_count_88 : decode cX11_count 88 = .ok (.invokevirtual 141, 3) := by decide +kernel
theorem dX11_count_91 : decode cX11_count 91 = .ok (.goto 4, 3) := by decide +kernel
theorem dX11_count_94 : decode cX11_count 94 = .ok (.iload_n 3, 1) := by decide +kernel
theorem dX11_count_95 : decode cX11_count 95 = .ok (.istore_n 3, 1) := by decide +kernel
theorem dX11_count_96 : decode cX11_count 96 = .ok (.iinc 4 1, 3) := by decide +kernel
theorem dX11_count_99 : decode cX11_count 99 = .ok (.goto (-33), 3) := by decide +kernel
theorem dX11_count_102 : decode cX11_count 102 = .ok (.iload_n 2, 1) := by decide +kernel
theorem dX11_count_103 : decode cX11_count 103 = .ok (.tableswitch 64 0 4 #[33, 40, 47, 57, 62], 33) := by decide +kernel
theorem dX11_count_136 : decode cX11_count 136 = .ok (.aload_n 0, 1) := by decide +kernel
theorem dX11_count_137 : decode cX11_count 137 = .ok (.getfield 20, 3) := by decide +kernel
theorem dX11_count_140 : decode cX11_count 140 = .ok (.iload_n 1, 1) := by decide +kernel
theorem dX11_count_141 : decode cX11_count 141 = .ok (.iaload, 1) := by decide +kernel
theorem dX11_count_142 : decode cX11_count 142 = .ok (.ireturn, 1) := by decide +kernel
theorem dX11_count_143 : decode cX11_count 143 = .ok (.aload_n 0, 1) := by decide +kernel
theorem dX11_count_144 : decode cX11_count 144 = .ok (.getfield 23, 3) := by decide +kernel
theorem dX11_count_147 : decode cX11_count 147 = .ok (.iload_n 1, 1) := by decide +kernel
theorem dX11_count_148 : decode cX11_count 148 = .ok (.iaload, 1) := by decide +kernel
theorem dX11_count_149 : decode cX11_count 149 = .ok (.ireturn, 1) := by decide +kernel
theorem dX11_count_150 : decode cX11_count 150 = .ok (.aload_n 0, 1) := by decide +kernel
theorem dX11_count_151 : decode cX11_count 151 = .ok (.getfield 47, 3) := by decide +kernel
theorem dX11_count_154 : decode cX11_count 154 = .ok (.aload_n 0, 1) := by decide +kernel
theorem dX11_count_155 : decode cX11_count 155 = .ok (.getfield 121, 3) := by decide +kernel
theorem dX11_count_158 : decode cX11_count 158 = .ok (.iaload, 1) := by decide +kernel
theorem dX11_count_159 : decode cX11_count 159 = .ok (.ireturn, 1) := by decide +kernel
theorem dX11_count_160 : decode cX11_count 160 = .ok (.aload_n 0, 1) := by decide +kernel
theorem dX11_count_161 : decode cX11_count 161 = .ok (.getfield 128, 3) := by decide +kernel
theorem dX11_count_164 : decode cX11_count 164 = .ok (.ireturn, 1) := by decide +kernel
theorem dX11_count_165 : decode cX11_count 165 = .ok (.iload_n 3, 1) := by decide +kernel
theorem dX11_count_166 : decode cX11_count 166 = .ok (.ireturn, 1) := by decide +kernel
theorem dX11_count_167 : decode cX11_count 167 = .ok (.iconst (-1), 1) := by decide +kernel
theorem dX11_count_168 : decode cX11_count 168 = .ok (.ireturn, 1) := by decide +kernel
theorem dL_law_0 : decode cL_law 0 = .ok (.new 7, 3) := by decide +kernel
theorem dL_law_3 : decode cL_law 3 = .ok (.dup, 1) := by decide +kernel
theorem dL_law_4 : decode cL_law 4 = .ok (.invokespecial 9, 3) := by decide +kernel
theorem dL_law_7 : decode cL_law 7 = .ok (.astore_n 1, 1) := by decide +kernel
theorem dL_law_8 : decode cL_law 8 = .ok (.new 10, 3) := by decide +kernel
theorem dL_law_11 : decode cL_law 11 = .ok (.dup, 1) := by decide +kernel
theorem dL_law_12 : decode cL_law 12 = .ok (.invokespecial 12, 3) := by decide +kernel
theorem dL_law_15 : decode cL_law 15 = .ok (.astore_n 2, 1) := by decide +kernel
theorem dL_law_16 : decode cL_law 16 = .ok (.iconst 0, 1) := by decide +kernel
theorem dL_law_17 : decode cL_law 17 = .ok (.istore_n 3, 1) := by decide +kernel
theorem dL_law_18 : decode cL_law 18 = .ok (.iload_n 3, 1) := by decide +kernel
theorem dL_law_19 : decode cL_law 19 = .ok (.aload_n 0, 1) := by decide +kernel
theorem dL_law_20 : decode cL_law 20 = .ok (.arraylength, 1) := by decide +kernel
theorem dL_law_21 : decode cL_law 21 = .ok (.bipush 6, 2) := by decide +kernel
theorem dL_law_23 : decode cL_law 23 = .ok (.isub, 1) := by decide +kernel
theorem dL_law_24 : decode cL_law 24 = .ok (.if_icmp .gt 801, 3) := by decide +kernel
theorem dL_law_27 : decode cL_law 27 = .ok (.aload_n 0, 1) := by decide +kernel
theorem dL_law_28 : decode cL_law 28 = .ok (.iload_n 3, 1) := by decide +kernel
theorem dL_law_29 : decode cL_law 29 = .ok (.iaload, 1) := by decide +kernel
theorem dL_law_30 : decode cL_law 30 = .ok (.bipush 15, 2) := by decide +kernel
theorem dL_law_32 : decode cL_law 32 = .ok (.iand, 1) := by decide +kernel
theorem dL_law_33 : decode cL_law 33 = .ok (.tableswitch 786 0 14 #[75, 138, 161, 184, 237, 290, 333, 382, 451, 500, 569, 618, 677, 710, 753], 75) := by decide +kernel
theorem dL_law_108 : decode cL_law 108 = .ok (.aload_n 1, 1) := by decide +kernel
theorem dL_law_109 : decode cL_law 109 = .ok (.aload_n 0, 1) := by decide +kernel
theorem dL_law_110 : decode cL_law 110 = .ok (.iload_n 3, 1) := by decide +kernel
theorem dL_law_111 : decode cL_law 111 = .ok (.iconst 1, 1) := by decide +kernel
theorem dL_law_112 : decode cL_law 112 = .ok (.iadd, 1) := by decide +kernel
theorem dL_law_113 : decode cL_law 113 = .ok (.iaload, 1) := by decide +kernel
theorem dL_law_114 : decode cL_law 114 = .ok (.aload_n 0, 1) := by decide +kernel
theorem dL_law_115 : decode cL_law 115 = .ok (.iload_n 3, 1) := by decide +kernel
theorem dL_law_116 : decode cL_law 116 = .ok (.iconst 2, 1) := by decide +kernel
theorem dL_law_117 : decode cL_law 117 = .ok (.iadd, 1) := by decide +kernel
theorem dL_law_118 : decode cL_law 118 = .ok (.iaload, 1) := by decide +kernel
theorem dL_law_119 : decode cL_law 119 = .ok (.aload_n 0, 1) := by decide +kernel
theorem dL_law_120 : decode cL_law 120 = .ok (.iload_n 3, 1) := by decide +kernel
theorem dL_law_121 : decode cL_law 121 = .ok (.iconst 3, 1) := by decide +kernel
theorem dL_law_122 : decode cL_law 122 = .ok (.iadd, 1) := by decide +kernel
theorem dL_law_123 : decode cL_law 123 = .ok (.iaload, 1) := by decide +kernel
theorem dL_law_124 : decode cL_law 124 = .ok (.aload_n 0, 1) := by decide +kernel
theorem dL_law_125 : decode cL_law 125 = .ok (.iload_n 3, 1) := by decide +kernel
theorem dL_law_126 : decode cL_law 126 = .ok (.iconst 4, 1) := by decide +kernel
theorem dL_law_127 : decode cL_law 127 = .ok (.iadd, 1) := by decide +kernel
theorem dL_law_128 : decode cL_law 128 = .ok (.iaload, 1) := by decide +kernel
theorem dL_law_129 : decode cL_law 129 = .ok (.aload_n 0, 1) := by decide +kernel
theorem dL_law_130 : decode cL_law 130 = .ok (.iload_n 3, 1) := by decide +kernel
theorem dL_law_131 : decode cL_law 131 = .ok (.iconst 5, 1) := by decide +kernel
theorem dL_law_132 : decode cL_law 132 = .ok (.iadd, 1) := by decide +kernel
theorem dL_law_133 : decode cL_law 133 = .ok (.iaload, 1) := by decide +kernel
theorem dL_law_134 : decode cL_law 134 = .ok (.invokevirtual 13, 3) := by decide +kernel
theorem dL_law_137 : decode cL_law 137 = .ok (.aload_n 2, 1) := by decide +kernel
theorem dL_law_138 : decode cL_law 138 = .ok (.aload_n 0, 1) := by decide +kernel
theorem dL_law_139 : decode cL_law 139 = .ok (.iload_n 3, 1) := by decide +kernel
theorem dL_law_140 : decode cL_law 140 = .ok (.iconst 1, 1) := by decide +kernel
theorem dL_law_141 : decode cL_law 141 = .ok (.iadd, 1) := by decide +kernel
theorem dL_law_142 : decode cL_law 142 = .ok (.iaload, 1) := by decide +kernel
theorem dL_law_143 : decode cL_law 143 = .ok (.aload_n 0, 1) := by decide +kernel
theorem dL_law_144 : decode cL_law 144 = .ok (.iload_n 3, 1) := by decide +kernel
theorem dL_law_145 : decode cL_law 145 = .ok (.iconst 2, 1) := by decide +kernel
theorem dL_law_146 : decode cL_law 146 = .ok (.iadd, 1) := by decide +kernel
theorem dL_law_147 : decode cL_law 147 = .ok (.iaload, 1) := by decide +kernel
theorem dL_law_148 : decode cL_law 148 = .ok (.aload_n 0, 1) := by decide +kernel
theorem dL_law_149 : decode cL_law 149 = .ok (.iload_n 3, 1) := by decide +kernel
theorem dL_law_150 : decode cL_law 150 = .ok (.iconst 3, 1) := by decide +kernel
theorem dL_law_151 : decode cL_law 151 = .ok (.iadd, 1) := by decide +kernel
theorem dL_law_152 : decode cL_law 152 = .ok (.iaload, 1) := by decide +kernel
theorem dL_law_153 : decode cL_law 153 = .ok (.aload_n 0, 1) := by decide +kernel
theorem dL_law_154 : decode cL_law 154 = .ok (.iload_n 3, 1) := by decide +kernel
theorem dL_law_155 : decode cL_law 155 = .ok (.iconst 4, 1) := by decide +kernel
theorem dL_law_156 : decode cL_law 156 = .ok (.iadd, 1) := by decide +kernel
theorem dL_law_157 : decode cL_law 157 = .ok (.iaload, 1) := by decide +kernel
theorem dL_law_158 : decode cL_law 158 = .ok (.aload_n 0, 1) := by decide +kernel
theorem dL_law_159 : decode cL_law 159 = .ok (.iload_n 3, 1) := by decide +kernel
theorem dL_law_160 : decode cL_law 160 = .ok (.iconst 5, 1) := by decide +kernel
theorem dL_law_161 : decode cL_law 161 = .ok (.iadd, 1) := by decide +kernel
theorem dL_law_162 : decode cL_law 162 = .ok (.iaload, 1) := by decide +kernel
theorem dL_law_163 : decode cL_law 163 = .ok (.invokevirtual 17, 3) := by decide +kernel
theorem dL_law_166 : decode cL_law 166 = .ok (.if_icmp .eq 653, 3) := by decide +kernel
theorem dL_law_169 : decode cL_law 169 = .ok (.iconst 0, 1) := by decide +kernel
theorem dL_law_170 : decode cL_law 170 = .ok (.ireturn, 1) := by decide +kernel
theorem dL_law_171 : decode cL_law 171 = .ok (.aload_n 1, 1) := by decide +kernel
theorem dL_law_172 : decode cL_law 172 = .ok (.aload_n 0, 1) := by decide +kernel
theorem dL_law_173 : decode cL_law 173 = .ok (.iload_n 3, 1) := by decide +kernel
theorem dL_law_174 : decode cL_law 174 = .ok (.iconst 1, 1) := by decide +kernel
theorem dL_law_175 : decode cL_law 175 = .ok (.iadd, 1) := by decide +kernel
theorem dL_law_176 : decode cL_law 176 = .ok (.iaload, 1) := by decide +kernel
theorem dL_law_177 : decode cL_law 177 = .ok (.invokevirtual 18, 3) := by decide +kernel
theorem dL_law_180 : decode cL_law 180 = .ok (.aload_n 2, 1) := by decide +kernel
theorem dL_law_181 : decode cL_law 181 = .ok (.aload_n 0, 1) := by decide +kernel
theorem dL_law_182 : decode cL_law 182 = .ok (.iload_n 3, 1) := by decide +kernel
theorem dL_law_183 : decode cL_law 183 = .ok (.iconst 1, 1) := by decide +kernel
theorem dL_law_184 : decode cL_law 184 = .ok (.iadd, 1) := by decide +kernel
theorem dL_law_185 : decode cL_law 185 = .ok (.iaload, 1) := by decide +kernel
theorem dL_law_186 : decode cL_law 186 = .ok (.invokevirtual 22, 3) := by decide +kernel
theorem dL_law_189 : decode cL_law 189 = .ok (.if_icmp .eq 630, 3) := by decide +kernel
theorem dL_law_192 : decode cL_law 192 = .ok (.iconst 0, 1) := by decide +kernel
theorem dL_law_193 : decode cL_law 193 = .ok (.ireturn, 1) := by decide +kernel
theorem dL_law_194 : decode cL_law 194 = .ok (.aload_n 1, 1) := by decide +kernel
theorem dL_law_195 : decode cL_law 195 = .ok (.aload_n 0, 1) := by decide +kernel
theorem dL_law_196 : decode cL_law 196 = .ok (.iload_n 3, 1) := by decide +kernel
theorem dL_law_197 : decode cL_law 197 = .ok (.iconst 1, 1) := by decide +kernel
theorem dL_law_198 : decode cL_law 198 = .ok (.iadd, 1) := by decide +kernel
theorem dL_law_199 : decode cL_law 199 = .ok (.iaload, 1) := by decide +kernel
theorem dL_law_200 : decode cL_law 200 = .ok (.invokevirtual 23, 3) := by decide +kernel
theorem dL_law_203 : decode cL_law 203 = .ok (.aload_n 2, 1) := by decide +kernel
theorem dL_law_204 : decode cL_law 204 = .ok (.aload_n 0, 1) := by decide +kernel
theorem dL_law_205 : decode cL_law 205 = .ok (.iload_n 3, 1) := by decide +kernel
theorem dL_law_206 : decode cL_law 206 = .ok (.iconst 1, 1) := by decide +kernel
theorem dL_law_207 : decode cL_law 207 = .ok (.iadd, 1) := by decide +kernel
theorem dL_law_208 : decode cL_law 208 = .ok (.iaload, 1) := by decide +kernel
theorem dL_law_209 : decode cL_law 209 = .ok (.invokevirtual 26, 3) := by decide +kernel
theorem dL_law_212 : decode cL_law 212 = .ok (.if_icmp .eq 607, 3) := by decide +kernel
theorem dL_law_215 : decode cL_law 215 = .ok (.iconst 0, 1) := by decide +kernel
theorem dL_law_216 : decode cL_law 216 = .ok (.ireturn, 1) := by decide +kernel
theorem dL_law_217 : decode cL_law 217 = .ok (.aload_n 1, 1) := by decide +kernel
theorem dL_law_218 : decode cL_law 218 = .ok (.aload_n 0, 1) := by decide +kernel
theorem dL_law_219 : decode cL_law 219 = .ok (.iload_n 3, 1) := by decide +kernel
theorem dL_law_220 : decode cL_law 220 = .ok (.iconst 1, 1) := by decide +kernel
theorem dL_law_221 : decode cL_law 221 = .ok (.iadd, 1) := by decide +kernel
theorem dL_law_222 : decode cL_law 222 = .ok (.iaload, 1) := by decide +kernel
theorem dL_law_223 : decode cL_law 223 = .ok (.aload_n 0, 1) := by decide +kernel
theorem dL_law_224 : decode cL_law 224 = .ok (.iload_n 3, 1) := by decide +kernel
theorem dL_law_225 : decode cL_law 225 = .ok (.iconst 2, 1) := by decide +kernel
theorem dL_law_226 : decode cL_law 226 = .ok (.iadd, 1) := by decide +kernel
theorem dL_law_227 : decode cL_law 227 = .ok (.iaload, 1) := by decide +kernel
theorem dL_law_228 : decode cL_law 228 = .ok (.aload_n 0, 1) := by decide +kernel
theorem dL_law_229 : decode cL_law 229 = .ok (.iload_n 3, 1) := by decide +kernel
theorem dL_law_230 : decode cL_law 230 = .ok (.iconst 3, 1) := by decide +kernel
theorem dL_law_231 : decode cL_law 231 = .ok (.iadd, 1) := by decide +kernel
theorem dL_law_232 : decode cL_law 232 = .ok (.iaload, 1) := by decide +kernel
theorem dL_law_233 : decode cL_law 233 = .ok (.aload_n 0, 1) := by decide +kernel
theorem dL_law_234 : decode cL_law 234 = .ok (.iload_n 3, 1) := by decide +kernel
theorem dL_law_235 : decode cL_law 235 = .ok (.iconst 4, 1) := by decide +kernel
theorem dL_law_236 : decode cL_law 236 = .ok (.iadd, 1) := by decide +kernel
theorem dL_law_237 : decode cL_law 237 = .ok (.iaload, 1) := by decide +kernel
theorem dL_law_238 : decode cL_law 238 = .ok (.invokevirtual 27, 3) := by decide +kernel
theorem dL_law_241 : decode cL_law 241 = .ok (.aload_n 2, 1) := by decide +kernel
theorem dL_law_242 : decode cL_law 242 = .ok (.aload_n 0, 1) := by decide +kernel
theorem dL_law_243 : decode cL_law 243 = .ok (.iload_n 3, 1) := by decide +kernel
theorem dL_law_244 : decode cL_law 244 = .ok (.iconst 1, 1) := by decide +kernel
theorem dL_law_245 : decode cL_law 245 = .ok (.iadd, 1) := by decide +kernel
theorem dL_law_246 : decode cL_law 246 = .ok (.iaload, 1) := by decide +kernel
theorem dL_law_247 : decode cL_law 247 = .ok (.aload_n 0, 1) := by decide +kernel
theorem dL_law_248 : decode cL_law 248 = .ok (.iload_n 3, 1) := by decide +kernel
theorem dL_law_249 : decode cL_law 249 = .ok (.iconst 2, 1) := by decide +kernel
theorem dL_law_250 : decode cL_law 250 = .ok (.iadd, 1) := by decide +kernel
theorem dL_law_251 : decode cL_law 251 = .ok (.iaload, 1) := by decide +kernel
theorem dL_law_252 : decode cL_law 252 = .ok (.aload_n 0, 1) := by decide +kernel
theorem dL_law_253 : decode cL_law 253 = .ok (.iload_n 3, 1) := by decide +kernel
theorem dL_law_254 : decode cL_law 254 = .ok (.iconst 3, 1) := by decide +kernel
theorem dL_law_255 : decode cL_law 255 = .ok (.iadd, 1) := by decide +kernel
theorem dL_law_256 : decode cL_law 256 = .ok (.iaload, 1) := by decide +kernel
theorem dL_law_257 : decode cL_law 257 = .ok (.aload_n 0, 1) := by decide +kernel
theorem dL_law_258 : decode cL_law 258 = .ok (.iload_n 3, 1) := by decide +kernel
theorem dL_law_259 : decode cL_law 259 = .ok (.iconst 4, 1) := by decide +kernel
theorem dL_law_260 : decode cL_law 260 = .ok (.iadd, 1) := by decide +kernel
theorem dL_law_261 : decode cL_law 261 = .ok (.iaload, 1) := by decide +kernel
theorem dL_law_262 : decode cL_law 262 = .ok (.invokevirtual 31, 3) := by decide +kernel
theorem dL_law_265 : decode cL_law 265 = .ok (.if_icmp .eq 554, 3) := by decide +kernel
theorem dL_law_268 : decode cL_law 268 = .ok (.iconst 0, 1) := by decide +kernel
theorem dL_law_269 : decode cL_law 269 = .ok (.ireturn, 1) := by decide +kernel
theorem dL_law_270 : decode cL_law 270 = .ok (.aload_n 1, 1) := by decide +kernel
theorem dL_law_271 : decode cL_law 271 = .ok (.aload_n 0, 1) := by decide +kernel
theorem dL_law_272 : decode cL_law 272 = .ok (.iload_n 3, 1) := by decide +kernel
theorem dL_law_273 : decode cL_law 273 = .ok (.iconst 1, 1) := by decide +kernel
theorem dL_law_274 : decode cL_law 274 = .ok (.iadd, 1) := by decide +kernel
theorem dL_law_275 : decode cL_law 275 = .ok (.iaload, 1) := by decide +kernel
theorem dL_law_276 : decode cL_law 276 = .ok (.aload_n 0, 1) := by decide +kernel
theorem dL_law_277 : decode cL_law 277 = .ok (.iload_n 3, 1) := by decide +kernel
theorem dL_law_278 : decode cL_law 278 = .ok (.iconst 2, 1) := by decide +kernel
theorem dL_law_279 : decode cL_law 279 = .ok (.iadd, 1) := by decide +kernel
theorem dL_law_280 : decode cL_law 280 = .ok (.iaload, 1) := by decide +kernel
theorem dL_law_281 : decode cL_law 281 = .ok (.aload_n 0, 1) := by decide +kernel
theorem dL_law_282 : decode cL_law 282 = .ok (.iload_n 3, 1) := by decide +kernel
theorem dL_law_283 : decode cL_law 283 = .ok (.iconst 3, 1) := by decide +kernel
theorem dL_law_284 : decode cL_law 284 = .ok (.iadd, 1) := by decide +kernel
theorem dL_law_285 : decode cL_law 285 = .ok (.iaload, 1) := by decide +kernel
theorem dL_law_286 : decode cL_law 286 = .ok (.aload_n 0, 1) := by decide +kernel
theorem dL_law_287 : decode cL_law 287 = .ok (.iload_n 3, 1) := by decide +kernel
theorem dL_law_288 : decode cL_law 288 = .ok (.iconst 4, 1) := by decide +kernel
theorem dL_law_289 : decode cL_law 289 = .ok (.iadd, 1) := by decide +kernel
theorem dL_law_290 : decode cL_law 290 = .ok (.iaload, 1) := by decide +kernel
theorem dL_law_291 : decode cL_law 291 = .ok (.invokevirtual 32, 3) := by decide +kernel
theorem dL_law_294 : decode cL_law 294 = .ok (.aload_n 2, 1) := by decide +kernel
theorem dL_law_295 : decode cL_law 295 = .ok (.aload_n 0, 1) := by decide +kernel
theorem dL_law_296 : decode cL_law 296 = .ok (.iload_n 3, 1) := by decide +kernel
theorem dL_law_297 : decode cL_law 297 = .ok (.iconst 1, 1) := by decide +kernel
theorem dL_law_298 : decode cL_law 298 = .ok (.iadd, 1) := by decide +kernel
theorem dL_law_299 : decode cL_law 299 = .ok (.iaload, 1) := by decide +kernel
theorem dL_law_300 : decode cL_law 300 = .ok (.aload_n 0, 1) := by decide +kernel
theorem dL_law_301 : decode cL_law 301 = .ok (.iload_n 3, 1) := by decide +kernel
theorem dL_law_302 : decode cL_law 302 = .ok (.iconst 2, 1) := by decide +kernel
theorem dL_law_303 : decode cL_law 303 = .ok (.iadd, 1) := by decide +kernel
theorem dL_law_304 : decode cL_law 304 = .ok (.iaload, 1) := by decide +kernel
theorem dL_law_305 : decode cL_law 305 = .ok (.aload_n 0, 1) := by decide +kernel
theorem dL_law_306 : decode cL_law 306 = .ok (.iload_n 3, 1) := by decide +kernel
theorem dL_law_307 : decode cL_law 307 = .ok (.iconst 3, 1) := by decide +kernel
theorem dL_law_308 : decode cL_law 308 = .ok (.iadd, 1) := by decide +kernel
theorem dL_law_309 : decode cL_law 309 = .ok (.iaload, 1) := by decide +kernel
theorem dL_law_310 : decode cL_law 310 = .ok (.aload_n 0, 1) := by decide +kernel
theorem dL_law_311 : decode cL_law 311 = .ok (.iload_n 3, 1) := by decide +kernel
theorem dL_law_312 : decode cL_law 312 = .ok (.iconst 4, 1) := by decide +kernel
theorem dL_law_313 : decode cL_law 313 = .ok (.iadd, 1) := by decide +kernel
theorem dL_law_314 : decode cL_law 314 = .ok (.iaload, 1) := by decide +kernel
theorem dL_law_315 : decode cL_law 315 = .ok (.invokevirtual 36, 3) := by decide +kernel
theorem dL_law_318 : decode cL_law 318 = .ok (.if_icmp .eq 501, 3) := by decide +kernel
theorem dL_law_321 : decode cL_law 321 = .ok (.iconst 0, 1) := by decide +kernel
theorem dL_law_322 : decode cL_law 322 = .ok (.ireturn, 1) := by decide +kernel
theorem dL_law_323 : decode cL_law 323 = .ok (.aload_n 1, 1) := by decide +kernel
theorem dL_law_324 : decode cL_law 324 = .ok (.aload_n 0, 1) := by decide +kernel
theorem dL_law_325 : decode cL_law 325 = .ok (.iload_n 3, 1) := by decide +kernel
theorem dL_law_326 : decode cL_law 326 = .ok (.iconst 1, 1) := by decide +kernel
theorem dL_law_327 : decode cL_law 327 = .ok (.iadd, 1) := by decide +kernel
theorem dL_law_328 : decode cL_law 328 = .ok (.iaload, 1) := by decide +kernel
theorem dL_law_329 : decode cL_law 329 = .ok (.aload_n 0, 1) := by decide +kernel
theorem dL_law_330 : decode cL_law 330 = .ok (.iload_n 3, 1) := by decide +kernel
theorem dL_law_331 : decode cL_law 331 = .ok (.iconst 2, 1) := by decide +kernel
theorem dL_law_332 : decode cL_law 332 = .ok (.iadd, 1) := by decide +kernel
theorem dL_law_333 : decode cL_law 333 = .ok (.iaload, 1) := by decide +kernel
theorem dL_law_334 : decode cL_law 334 = .ok (.aload_n 0, 1) := by decide +kernel
theorem dL_law_335 : decode cL_law 335 = .ok (.iload_n 3, 1) := by decide +kernel
theorem dL_law_336 : decode cL_law 336 = .ok (.iconst 3, 1) := by decide +kernel
theorem dL_law_337 : decode cL_law 337 = .ok (.iadd, 1) := by decide +kernel
theorem dL_law_338 : decode cL_law 338 = .ok (.iaload, 1) := by decide +kernel
theorem dL_law_339 : decode cL_law 339 = .ok (.invokevirtual 37, 3) := by decide +kernel
theorem dL_law_342 : decode cL_law 342 = .ok (.aload_n 2, 1) := by decide +kernel
theorem dL_law_343 : decode cL_law 343 = .ok (.aload_n 0, 1) := by decide +kernel
theorem dL_law_344 : decode cL_law 344 = .ok (.iload_n 3, 1) := by decide +kernel
theorem dL_law_345 : decode cL_law 345 = .ok (.iconst 1, 1) := by decide +kernel
theorem dL_law_346 : decode cL_law 346 = .ok (.iadd, 1) := by decide +kernel
theorem dL_law_347 : decode cL_law 347 = .ok (.iaload, 1) := by decide +kernel
theorem dL_law_348 : decode cL_law 348 = .ok (.aload_n 0, 1) := by decide +kernel
theorem dL_law_349 : decode cL_law 349 = .ok (.iload_n 3, 1) := by decide +kernel
theorem dL_law_350 : decode cL_law 350 = .ok (.iconst 2, 1) := by decide +kernel
theorem dL_law_351 : decode cL_law 351 = .ok (.iadd, 1) := by decide +kernel
theorem dL_law_352 : decode cL_law 352 = .ok (.iaload, 1) := by decide +kernel
theorem dL_law_353 : decode cL_law 353 = .ok (.aload_n 0, 1) := by decide +kernel
theorem dL_law_354 : decode cL_law 354 = .ok (.iload_n 3, 1) := by decide +kernel
theorem dL_law_355 : decode cL_law 355 = .ok (.iconst 3, 1) := by decide +kernel
theorem dL_law_356 : decode cL_law 356 = .ok (.iadd, 1) := by decide +kernel
theorem dL_law_357 : decode cL_law 357 = .ok (.iaload, 1) := by decide +kernel
theorem dL_law_358 : decode cL_law 358 = .ok (.invokevirtual 41, 3) := by decide +kernel
theorem dL_law_361 : decode cL_law 361 = .ok (.if_icmp .eq 458, 3) := by decide +kernel
theorem dL_law_364 : decode cL_law 364 = .ok (.iconst 0, 1) := by decide +kernel
theorem dL_law_365 : decode cL_law 365 = .ok (.ireturn, 1) := by decide +kernel
theorem dL_law_366 : decode cL_law 366 = .ok (.aload_n 1, 1) := by decide +kernel
theorem dL_law_367 : decode cL_law 367 = .ok (.aload_n 0, 1) := by decide +kernel
theorem dL_law_368 : decode cL_law 368 = .ok (.iload_n 3, 1) := by decide +kernel
theorem dL_law_369 : decode cL_law 369 = .ok (.iconst 1, 1) := by decide +kernel
theorem dL_law_370 : decode cL_law 370 = .ok (.iadd, 1) := by decide +kernel
theorem dL_law_371 : decode cL_law 371 = .ok (.iaload, 1) := by decide +kernel
theorem dL_law_372 : decode cL_law 372 = .ok (.aload_n 0, 1) := by decide +kernel
theorem dL_law_373 : decode cL_law 373 = .ok (.iload_n 3, 1) := by decide +kernel
theorem dL_law_374 : decode cL_law 374 = .ok (.iconst 2, 1) := by decide +kernel
theorem dL_law_375 : decode cL_law 375 = .ok (.iadd, 1) := by decide +kernel
theorem dL_law_376 : decode cL_law 376 = .ok (.iaload, 1) := by decide +kernel
theorem dL_law_377 : decode cL_law 377 = .ok (.ifCond .eq 7, 3) := by decide +kernel
theorem dL_law_380 : decode cL_law 380 = .ok (.iconst 1, 1) := by decide +kernel
theorem dL_law_381 : decode cL_law 381 = .ok (.goto 4, 3) := by decide +kernel
theorem dL_law_384 : decode cL_law 384 = .ok (.iconst 0, 1) := by decide +kernel
theorem dL_law_385 : decode cL_law 385 = .ok (.invokevirtual 42, 3) := by decide +kernel
theorem dL_law_388 : decode cL_law 388 = .ok (.aload_n 2, 1) := by decide +kernel
theorem dL_law_389 : decode cL_law 389 = .ok (.aload_n 0, 1) := by decide +kernel
theorem dL_law_390 : decode cL_law 390 = .ok (.iload_n 3, 1) := by decide +kernel
theorem dL_law_391 : decode cL_law 391 = .ok (.iconst 1, 1) := by decide +kernel
theorem dL_law_392 : decode cL_law 392 = .ok (.iadd, 1) := by decide +kernel
theorem dL_law_393 : decode cL_law 393 = .ok (.iaload, 1) := by decide +kernel
theorem dL_law_394 : decode cL_law 394 = .ok (.aload_n 0, 1) := by decide +kernel
theorem dL_law_395 : decode cL_law 395 = .ok (.iload_n 3, 1) := by decide +kernel
theorem dL_law_396 : decode cL_law 396 = .ok (.iconst 2, 1) := by decide +kernel
theorem dL_law_397 : decode cL_law 397 = .ok (.iadd, 1) := by decide +kernel
theorem dL_law_398 : decode cL_law 398 = .ok (.iaload, 1) := by decide +kernel
theorem dL_law_399 : decode cL_law 399 = .ok (.ifCond .eq 7, 3) := by decide +kernel
theorem dL_law_402 : decode cL_law 402 = .ok (.iconst 1, 1) := by decide +kernel
theorem dL_law_403 : decode cL_law 403 = .ok (.goto 4, 3) := by decide +kernel
theorem dL_law_406 : decode cL_law 406 = .ok (.iconst 0, 1) := by decide +kernel
theorem dL_law_407 : decode cL_law 407 = .ok (.invokevirtual 46, 3) := by decide +kernel
theorem dL_law_410 : decode cL_law 410 = .ok (.if_icmp .eq 409, 3) := by decide +kernel
theorem dL_law_413 : decode cL_law 413 = .ok (.iconst 0, 1) := by decide +kernel
theorem dL_law_414 : decode cL_law 414 = .ok (.ireturn, 1) := by decide +kernel
theorem dL_law_415 : decode cL_law 415 = .ok (.aload_n 1, 1) := by decide +kernel
theorem dL_law_416 : decode cL_law 416 = .ok (.aload_n 0, 1) := by decide +kernel
theorem dL_law_417 : decode cL_law 417 = .ok (.iload_n 3, 1) := by decide +kernel
theorem dL_law_418 : decode cL_law 418 = .ok (.iconst 1, 1) := by decide +kernel
theorem dL_law_419 : decode cL_law 419 = .ok (.iadd, 1) := by decide +kernel
theorem dL_law_420 : decode cL_law 420 = .ok (.iaload, 1) := by decide +kernel
theorem dL_law_421 : decode cL_law 421 = .ok (.aload_n 0, 1) := by decide +kernel
theorem dL_law_422 : decode cL_law 422 = .ok (.iload_n 3, 1) := by decide +kernel
theorem dL_law_423 : decode cL_law 423 = .ok (.iconst 2, 1) := by decide +kernel
theorem dL_law_424 : decode cL_law 424 = .ok (.iadd, 1) := by decide +kernel
theorem dL_law_425 : decode cL_law 425 = .ok (.iaload, 1) := by decide +kernel
theorem dL_law_426 : decode cL_law 426 = .ok (.ifCond .eq 7, 3) := by decide +kernel
theorem dL_law_429 : decode cL_law 429 = .ok (.iconst 1, 1) := by decide +kernel
theorem dL_law_430 : decode cL_law 430 = .ok (.goto 4, 3) := by decide +kernel
theorem dL_law_433 : decode cL_law 433 = .ok (.iconst 0, 1) := by decide +kernel
theorem dL_law_434 : decode cL_law 434 = .ok (.aload_n 0, 1) := by decide +kernel
theorem dL_law_435 : decode cL_law 435 = .ok (.iload_n 3, 1) := by decide +kernel
theorem dL_law_436 : decode cL_law 436 = .ok (.iconst 3, 1) := by decide +kernel
theorem dL_law_437 : decode cL_law 437 = .ok (.iadd, 1) := by decide +kernel
theorem dL_law_438 : decode cL_law 438 = .ok (.iaload, 1) := by decide +kernel
theorem dL_law_439 : decode cL_law 439 = .ok (.aload_n 0, 1) := by decide +kernel
theorem dL_law_440 : decode cL_law 440 = .ok (.iload_n 3, 1) := by decide +kernel
theorem dL_law_441 : decode cL_law 441 = .ok (.iconst 4, 1) := by decide +kernel
theorem dL_law_442 : decode cL_law 442 = .ok (.iadd, 1) := by decide +kernel
theorem dL_law_443 : decode cL_law 443 = .ok (.iaload, 1) := by decide +kernel
theorem dL_law_444 : decode cL_law 444 = .ok (.invokevirtual 47, 3) := by decide +kernel
theorem dL_law_447 : decode cL_law 447 = .ok (.aload_n 2, 1) := by decide +kernel
theorem dL_law_448 : decode cL_law 448 = .ok (.aload_n 0, 1) := by decide +kernel
theorem dL_law_449 : decode cL_law 449 = .ok (.iload_n 3, 1) := by decide +kernel
theorem dL_law_450 : decode cL_law 450 = .ok (.iconst 1, 1) := by decide +kernel
theorem dL_law_451 : decode cL_law 451 = .ok (.iadd, 1) := by decide +kernel
theorem dL_law_452 : decode cL_law 452 = .ok (.iaload, 1) := by decide +kernel
theorem dL_law_453 : decode cL_law 453 = .ok (.aload_n 0, 1) := by decide +kernel
theorem dL_law_454 : decode cL_law 454 = .ok (.iload_n 3, 1) := by decide +kernel
theorem dL_law_455 : decode cL_law 455 = .ok (.iconst 2, 1) := by decide +kernel
theorem dL_law_456 : decode cL_law 456 = .ok (.iadd, 1) := by decide +kernel
theorem dL_law_457 : decode cL_law 457 = .ok (.iaload, 1) := by decide +kernel
theorem dL_law_458 : decode cL_law 458 = .ok (.ifCond .eq 7, 3) := by decide +kernel
theorem dL_law_461 : decode cL_law 461 = .ok (.iconst 1, 1) := by decide +kernel
theorem dL_law_462 : decode cL_law 462 = .ok (.goto 4, 3) := by decide +kernel
theorem dL_law_465 : decode cL_law 465 = .ok (.iconst 0, 1) := by decide +kernel
theorem dL_law_466 : decode cL_law 466 = .ok (.aload_n 0, 1) := by decide +kernel
theorem dL_law_467 : decode cL_law 467 = .ok (.iload_n 3, 1) := by decide +kernel
theorem dL_law_468 : decode cL_law 468 = .ok (.iconst 3, 1) := by decide +kernel
theorem dL_law_469 : decode cL_law 469 = .ok (.iadd, 1) := by decide +kernel
theorem dL_law_470 : decode cL_law 470 = .ok (.iaload, 1) := by decide +kernel
theorem dL_law_471 : decode cL_law 471 = .ok (.aload_n 0, 1) := by decide +kernel
theorem dL_law_472 : decode cL_law 472 = .ok (.iload_n 3, 1) := by decide +kernel
theorem dL_law_473 : decode cL_law 473 = .ok (.iconst 4, 1) := by decide +kernel
theorem dL_law_474 : decode cL_law 474 = .ok (.iadd, 1) := by decide +kernel
theorem dL_law_475 : decode cL_law 475 = .ok (.iaload, 1) := by decide +kernel
theorem dL_law_476 : decode cL_law 476 = .ok (.invokevirtual 51, 3) := by decide +kernel
theorem dL_law_479 : decode cL_law 479 = .ok (.if_icmp .eq 340, 3) := by decide +kernel
theorem dL_law_482 : decode cL_law 482 = .ok (.iconst 0, 1) := by decide +kernel
theorem dL_law_483 : decode cL_law 483 = .ok (.ireturn, 1) := by decide +kernel
theorem dL_law_484 : decode cL_law 484 = .ok (.aload_n 1, 1) := by decide +kernel
theorem dL_law_485 : decode cL_law 485 = .ok (.aload_n 0, 1) := by decide +kernel
theorem dL_law_486 : decode cL_law 486 = .ok (.iload_n 3, 1) := by decide +kernel
theorem dL_law_487 : decode cL_law 487 = .ok (.iconst 1, 1) := by decide +kernel
theorem dL_law_488 : decode cL_law 488 = .ok (.iadd, 1) := by decide +kernel
theorem dL_law_489 : decode cL_law 489 = .ok (.iaload, 1) := by decide +kernel
theorem dL_law_490 : decode cL_law 490 = .ok (.aload_n 0, 1) := by decide +kernel
theorem dL_law_491 : decode cL_law 491 = .ok (.iload_n 3, 1) := by decide +kernel
theorem dL_law_492 : decode cL_law 492 = .ok (.iconst 2, 1) := by decide +kernel
theorem dL_law_493 : decode cL_law 493 = .ok (.iadd, 1) := by decide +kernel
theorem dL_law_494 : decode cL_law 494 = .ok (.iaload, 1) := by decide +kernel
theorem dL_law_495 : decode cL_law 495 = .ok (.ifCond .eq 7, 3) := by decide +kernel
theorem dL_law_498 : decode cL_law 498 = .ok (.iconst 1, 1) := by decide +kernel
theorem dL_law_499 : decode cL_law 499 = .ok (.goto 4, 3) := by decide +kernel
theorem dL_law_502 : decode cL_law 502 = .ok (.iconst 0, 1) := by decide +kernel
theorem dL_law_503 : decode cL_law 503 = .ok (.invokevirtual 52, 3) := by decide +kernel
theorem dL_law_506 : decode cL_law 506 = .ok (.aload_n 2, 1) := by decide +kernel
theorem dL_law_507 : decode cL_law 507 = .ok (.aload_n 0, 1) := by decide +kernel
theorem dL_law_508 : decode cL_law 508 = .ok (.iload_n 3, 1) := by decide +kernel
theorem dL_law_509 : decode cL_law 509 = .ok (.iconst 1, 1) := by decide +kernel
theorem dL_law_510 : decode cL_law 510 = .ok (.iadd, 1) := by decide +kernel
theorem dL_law_511 : decode cL_law 511 = .ok (.iaload, 1) := by decide +kernel
theorem dL_law_512 : decode cL_law 512 = .ok (.aload_n 0, 1) := by decide +kernel
theorem dL_law_513 : decode cL_law 513 = .ok (.iload_n 3, 1) := by decide +kernel
theorem dL_law_514 : decode cL_law 514 = .ok (.iconst 2, 1) := by decide +kernel
theorem dL_law_515 : decode cL_law 515 = .ok (.iadd, 1) := by decide +kernel
theorem dL_law_516 : decode cL_law 516 = .ok (.iaload, 1) := by decide +kernel
theorem dL_law_517 : decode cL_law 517 = .ok (.ifCond .eq 7, 3) := by decide +kernel
theorem dL_law_520 : decode cL_law 520 = .ok (.iconst 1, 1) := by decide +kernel
theorem dL_law_521 : decode cL_law 521 = .ok (.goto 4, 3) := by decide +kernel
theorem dL_law_524 : decode cL_law 524 = .ok (.iconst 0, 1) := by decide +kernel
theorem dL_law_525 : decode cL_law 525 = .ok (.invokevirtual 55, 3) := by decide +kernel
theorem dL_law_528 : decode cL_law 528 = .ok (.if_icmp .eq 291, 3) := by decide +kernel
theorem dL_law_531 : decode cL_law 531 = .ok (.iconst 0, 1) := by decide +kernel
theorem dL_law_532 : decode cL_law 532 = .ok (.ireturn, 1) := by decide +kernel
theorem dL_law_533 : decode cL_law 533 = .ok (.aload_n 1, 1) := by decide +kernel
theorem dL_law_534 : decode cL_law 534 = .ok (.aload_n 0, 1) := by decide +kernel
theorem dL_law_535 : decode cL_law 535 = .ok (.iload_n 3, 1) := by decide +kernel
theorem dL_law_536 : decode cL_law 536 = .ok (.iconst 1, 1) := by decide +kernel
theorem dL_law_537 : decode cL_law 537 = .ok (.iadd, 1) := by decide +kernel
theorem dL_law_538 : decode cL_law 538 = .ok (.iaload, 1) := by decide +kernel
theorem dL_law_539 : decode cL_law 539 = .ok (.aload_n 0, 1) := by decide +kernel
theorem dL_law_540 : decode cL_law 540 = .ok (.iload_n 3, 1) := by decide +kernel
theorem dL_law_541 : decode cL_law 541 = .ok (.iconst 2, 1) := by decide +kernel
theorem dL_law_542 : decode cL_law 542 = .ok (.iadd, 1) := by decide +kernel
theorem dL_law_543 : decode cL_law 543 = .ok (.iaload, 1) := by decide +kernel
theorem dL_law_544 : decode cL_law 544 = .ok (.ifCond .eq 7, 3) := by decide +kernel
theorem dL_law_547 : decode cL_law 547 = .ok (.iconst 1, 1) := by decide +kernel
theorem dL_law_548 : decode cL_law 548 = .ok (.goto 4, 3) := by decide +kernel
theorem dL_law_551 : decode cL_law 551 = .ok (.iconst 0, 1) := by decide +kernel
theorem dL_law_552 : decode cL_law 552 = .ok (.aload_n 0, 1) := by decide +kernel
theorem dL_law_553 : decode cL_law 553 = .ok (.iload_n 3, 1) := by decide +kernel
theorem dL_law_554 : decode cL_law 554 = .ok (.iconst 3, 1) := by decide +kernel
theorem dL_law_555 : decode cL_law 555 = .ok (.iadd, 1) := by decide +kernel
theorem dL_law_556 : decode cL_law 556 = .ok (.iaload, 1) := by decide +kernel
theorem dL_law_557 : decode cL_law 557 = .ok (.aload_n 0, 1) := by decide +kernel
theorem dL_law_558 : decode cL_law 558 = .ok (.iload_n 3, 1) := by decide +kernel
theorem dL_law_559 : decode cL_law 559 = .ok (.iconst 4, 1) := by decide +kernel
theorem dL_law_560 : decode cL_law 560 = .ok (.iadd, 1) := by decide +kernel
theorem dL_law_561 : decode cL_law 561 = .ok (.iaload, 1) := by decide +kernel
theorem dL_law_562 : decode cL_law 562 = .ok (.invokevirtual 56, 3) := by decide +kernel
theorem dL_law_565 : decode cL_law 565 = .ok (.aload_n 2, 1) := by decide +kernel
theorem dL_law_566 : decode cL_law 566 = .ok (.aload_n 0, 1) := by decide +kernel
theorem dL_law_567 : decode cL_law 567 = .ok (.iload_n 3, 1) := by decide +kernel
theorem dL_law_568 : decode cL_law 568 = .ok (.iconst 1, 1) := by decide +kernel
theorem dL_law_569 : decode cL_law 569 = .ok (.iadd, 1) := by decide +kernel
theorem dL_law_570 : decode cL_law 570 = .ok (.iaload, 1) := by decide +kernel
theorem dL_law_571 : decode cL_law 571 = .ok (.aload_n 0, 1) := by decide +kernel
theorem dL_law_572 : decode cL_law 572 = .ok (.iload_n 3, 1) := by decide +kernel
theorem dL_law_573 : decode cL_law 573 = .ok (.iconst 2, 1) := by decide +kernel
theorem dL_law_574 : decode cL_law 574 = .ok (.iadd, 1) := by decide +kernel
theorem dL_law_575 : decode cL_law 575 = .ok (.iaload, 1) := by decide +kernel
theorem dL_law_576 : decode cL_law 576 = .ok (.ifCond .eq 7, 3) := by decide +kernel
theorem dL_law_579 : decode cL_law 579 = .ok (.iconst 1, 1) := by decide +kernel
theorem dL_law_580 : decode cL_law 580 = .ok (.goto 4, 3) := by decide +kernel
theorem dL_law_583 : decode cL_law 583 = .ok (.iconst 0, 1) := by decide +kernel
theorem dL_law_584 : decode cL_law 584 = .ok (.aload_n 0, 1) := by decide +kernel
theorem dL_law_585 : decode cL_law 585 = .ok (.iload_n 3, 1) := by decide +kernel
theorem dL_law_586 : decode cL_law 586 = .ok (.iconst 3, 1) := by decide +kernel
theorem dL_law_587 : decode cL_law 587 = .ok (.iadd, 1) := by decide +kernel
theorem dL_law_588 : decode cL_law 588 = .ok (.iaload, 1) := by decide +kernel
theorem dL_law_589 : decode cL_law 589 = .ok (.aload_n 0, 1) := by decide +kernel
theorem dL_law_590 : decode cL_law 590 = .ok (.iload_n 3, 1) := by decide +kernel
theorem dL_law_591 : decode cL_law 591 = .ok (.iconst 4, 1) := by decide +kernel
theorem dL_law_592 : decode cL_law 592 = .ok (.iadd, 1) := by decide +kernel
theorem dL_law_593 : decode cL_law 593 = .ok (.iaload, 1) := by decide +kernel
theorem dL_law_594 : decode cL_law 594 = .ok (.invokevirtual 59, 3) := by decide +kernel
theorem dL_law_597 : decode cL_law 597 = .ok (.if_icmp .eq 222, 3) := by decide +kernel
theorem dL_law_600 : decode cL_law 600 = .ok (.iconst 0, 1) := by decide +kernel
theorem dL_law_601 : decode cL_law 601 = .ok (.ireturn, 1) := by decide +kernel
theorem dL_law_602 : decode cL_law 602 = .ok (.aload_n 1, 1) := by decide +kernel
theorem dL_law_603 : decode cL_law 603 = .ok (.aload_n 0, 1) := by decide +kernel
theorem dL_law_604 : decode cL_law 604 = .ok (.iload_n 3, 1) := by decide +kernel
theorem dL_law_605 : decode cL_law 605 = .ok (.iconst 1, 1) := by decide +kernel
theorem dL_law_606 : decode cL_law 606 = .ok (.iadd, 1) := by decide +kernel
theorem dL_law_607 : decode cL_law 607 = .ok (.iaload, 1) := by decide +kernel
theorem dL_law_608 : decode cL_law 608 = .ok (.aload_n 0, 1) := by decide +kernel
theorem dL_law_609 : decode cL_law 609 = .ok (.iload_n 3, 1) := by decide +kernel
theorem dL_law_610 : decode cL_law 610 = .ok (.iconst 2, 1) := by decide +kernel
theorem dL_law_611 : decode cL_law 611 = .ok (.iadd, 1) := by decide +kernel
theorem dL_law_612 : decode cL_law 612 = .ok (.iaload, 1) := by decide +kernel
theorem dL_law_613 : decode cL_law 613 = .ok (.ifCond .eq 7, 3) := by decide +kernel
theorem dL_law_616 : decode cL_law 616 = .ok (.iconst 1, 1) := by decide +kernel
theorem dL_law_617 : decode cL_law 617 = .ok (.goto 4, 3) := by decide +kernel
theorem dL_law_620 : decode cL_law 620 = .ok (.iconst 0, 1) := by decide +kernel
theorem dL_law_621 : decode cL_law 621 = .ok (.invokevirtual 60, 3) := by decide +kernel
theorem dL_law_624 : decode cL_law 624 = .ok (.aload_n 2, 1) := by decide +kernel
theorem dL_law_625 : decode cL_law 625 = .ok (.aload_n 0, 1) := by decide +kernel
theorem dL_law_626 : decode cL_law 626 = .ok (.iload_n 3, 1) := by decide +kernel
theorem dL_law_627 : decode cL_law 627 = .ok (.iconst 1, 1) := by decide +kernel
theorem dL_law_628 : decode cL_law 628 = .ok (.iadd, 1) := by decide +kernel
theorem dL_law_629 : decode cL_law 629 = .ok (.iaload, 1) := by decide +kernel
theorem dL_law_630 : decode cL_law 630 = .ok (.aload_n 0, 1) := by decide +kernel
theorem dL_law_631 : decode cL_law 631 = .ok (.iload_n 3, 1) := by decide +kernel
theorem dL_law_632 : decode cL_law 632 = .ok (.iconst 2, 1) := by decide +kernel
theorem dL_law_633 : decode cL_law 633 = .ok (.iadd, 1) := by decide +kernel
theorem dL_law_634 : decode cL_law 634 = .ok (.iaload, 1) := by decide +kernel
theorem dL_law_635 : decode cL_law 635 = .ok (.ifCond .eq 7, 3) := by decide +kernel
theorem dL_law_638 : decode cL_law 638 = .ok (.iconst 1, 1) := by decide +kernel
theorem dL_law_639 : decode cL_law 639 = .ok (.goto 4, 3) := by decide +kernel
theorem dL_law_642 : decode cL_law 642 = .ok (.iconst 0, 1) := by decide +kernel
theorem dL_law_643 : decode cL_law 643 = .ok (.invokevirtual 63, 3) := by decide +kernel
theorem dL_law_646 : decode cL_law 646 = .ok (.if_icmp .eq 173, 3) := by decide +kernel
theorem dL_law_649 : decode cL_law 649 = .ok (.iconst 0, 1) := by decide +kernel
theorem dL_law_650 : decode cL_law 650 = .ok (.ireturn, 1) := by decide +kernel
theorem dL_law_651 : decode cL_law 651 = .ok (.aload_n 1, 1) := by decide +kernel
theorem dL_law_652 : decode cL_law 652 = .ok (.aload_n 0, 1) := by decide +kernel
theorem dL_law_653 : decode cL_law 653 = .ok (.iload_n 3, 1) := by decide +kernel
theorem dL_law_654 : decode cL_law 654 = .ok (.iconst 1, 1) := by decide +kernel
theorem dL_law_655 : decode cL_law 655 = .ok (.iadd, 1) := by decide +kernel
theorem dL_law_656 : decode cL_law 656 = .ok (.iaload, 1) := by decide +kernel
theorem dL_law_657 : decode cL_law 657 = .ok (.aload_n 0, 1) := by decide +kernel
theorem dL_law_658 : decode cL_law 658 = .ok (.iload_n 3, 1) := by decide +kernel
theorem dL_law_659 : decode cL_law 659 = .ok (.iconst 2, 1) := by decide +kernel
theorem dL_law_660 : decode cL_law 660 = .ok (.iadd, 1) := by decide +kernel
theorem dL_law_661 : decode cL_law 661 = .ok (.iaload, 1) := by decide +kernel
theorem dL_law_662 : decode cL_law 662 = .ok (.ifCond .eq 7, 3) := by decide +kernel
theorem dL_law_665 : decode cL_law 665 = .ok (.iconst 1, 1) := by decide +kernel
theorem dL_law_666 : decode cL_law 666 = .ok (.goto 4, 3) := by decide +kernel
theorem dL_law_669 : decode cL_law 669 = .ok (.iconst 0, 1) := by decide +kernel
theorem dL_law_670 : decode cL_law 670 = .ok (.aload_n 0, 1) := by decide +kernel
theorem dL_law_671 : decode cL_law 671 = .ok (.iload_n 3, 1) := by decide +kernel
theorem dL_law_672 : decode cL_law 672 = .ok (.iconst 3, 1) := by decide +kernel
theorem dL_law_673 : decode cL_law 673 = .ok (.iadd, 1) := by decide +kernel
theorem dL_law_674 : decode cL_law 674 = .ok (.iaload, 1) := by decide +kernel
theorem dL_law_675 : decode cL_law 675 = .ok (.invokevirtual 64, 3) := by decide +kernel
theorem dL_law_678 : decode cL_law 678 = .ok (.aload_n 2, 1) := by decide +kernel
theorem dL_law_679 : decode cL_law 679 = .ok (.aload_n 0, 1) := by decide +kernel
theorem dL_law_680 : decode cL_law 680 = .ok (.iload_n 3, 1) := by decide +kernel
theorem dL_law_681 : decode cL_law 681 = .ok (.iconst 1, 1) := by decide +kernel
theorem dL_law_682 : decode cL_law 682 = .ok (.iadd, 1) := by decide +kernel
theorem dL_law_683 : decode cL_law 683 = .ok (.iaload, 1) := by decide +kernel
theorem dL_law_684 : decode cL_law 684 = .ok (.aload_n 0, 1) := by decide +kernel
theorem dL_law_685 : decode cL_law 685 = .ok (.iload_n 3, 1) := by decide +kernel
theorem dL_law_686 : decode cL_law 686 = .ok (.iconst 2, 1) := by decide +kernel
theorem dL_law_687 : decode cL_law 687 = .ok (.iadd, 1) := by decide +kernel
theorem dL_law_688 : decode cL_law 688 = .ok (.iaload, 1) := by decide +kernel
theorem dL_law_689 : decode cL_law 689 = .ok (.ifCond .eq 7, 3) := by decide +kernel
theorem dL_law_692 : decode cL_law 692 = .ok (.iconst 1, 1) := by decide +kernel
theorem dL_law_693 : decode cL_law 693 = .ok (.goto 4, 3) := by decide +kernel
theorem dL_law_696 : decode cL_law 696 = .ok (.iconst 0, 1) := by decide +kernel
theorem dL_law_697 : decode cL_law 697 = .ok (.aload_n 0, 1) := by decide +kernel
theorem dL_law_698 : decode cL_law 698 = .ok (.iload_n 3, 1) := by decide +kernel
theorem dL_law_699 : decode cL_law 699 = .ok (.iconst 3, 1) := by decide +kernel
theorem dL_law_700 : decode cL_law 700 = .ok (.iadd, 1) := by decide +kernel
theorem dL_law_701 : decode cL_law 701 = .ok (.iaload, 1) := by decide +kernel
theorem dL_law_702 : decode cL_law 702 = .ok (.invokevirtual 68, 3) := by decide +kernel
theorem dL_law_705 : decode cL_law 705 = .ok (.if_icmp .eq 114, 3) := by decide +kernel
theorem dL_law_708 : decode cL_law 708 = .ok (.iconst 0, 1) := by decide +kernel
theorem dL_law_709 : decode cL_law 709 = .ok (.ireturn, 1) := by decide +kernel
theorem dL_law_710 : decode cL_law 710 = .ok (.aload_n 1, 1) := by decide +kernel
theorem dL_law_711 : decode cL_law 711 = .ok (.aload_n 0, 1) := by decide +kernel
theorem dL_law_712 : decode cL_law 712 = .ok (.iload_n 3, 1) := by decide +kernel
theorem dL_law_713 : decode cL_law 713 = .ok (.iconst 1, 1) := by decide +kernel
theorem dL_law_714 : decode cL_law 714 = .ok (.iadd, 1) := by decide +kernel
theorem dL_law_715 : decode cL_law 715 = .ok (.iaload, 1) := by decide +kernel
theorem dL_law_716 : decode cL_law 716 = .ok (.aload_n 0, 1) := by decide +kernel
theorem dL_law_717 : decode cL_law 717 = .ok (.iload_n 3, 1) := by decide +kernel
theorem dL_law_718 : decode cL_law 718 = .ok (.iconst 2, 1) := by decide +kernel
theorem dL_law_719 : decode cL_law 719 = .ok (.iadd, 1) := by decide +kernel
theorem dL_law_720 : decode cL_law 720 = .ok (.iaload, 1) := by decide +kernel
theorem dL_law_721 : decode cL_law 721 = .ok (.invokevirtual 69, 3) := by decide +kernel
theorem dL_law_724 : decode cL_law 724 = .ok (.aload_n 2, 1) := by decide +kernel
theorem dL_law_725 : decode cL_law 725 = .ok (.aload_n 0, 1) := by decide +kernel
theorem dL_law_726 : decode cL_law 726 = .ok (.iload_n 3, 1) := by decide +kernel
theorem dL_law_727 : decode cL_law 727 = .ok (.iconst 1, 1) := by decide +kernel
theorem dL_law_728 : decode cL_law 728 = .ok (.iadd, 1) := by decide +kernel
theorem dL_law_729 : decode cL_law 729 = .ok (.iaload, 1) := by decide +kernel
theorem dL_law_730 : decode cL_law 730 = .ok (.aload_n 0, 1) := by decide +kernel
theorem dL_law_731 : decode cL_law 731 = .ok (.iload_n 3, 1) := by decide +kernel
theorem dL_law_732 : decode cL_law 732 = .ok (.iconst 2, 1) := by decide +kernel
theorem dL_law_733 : decode cL_law 733 = .ok (.iadd, 1) := by decide +kernel
theorem dL_law_734 : decode cL_law 734 = .ok (.iaload, 1) := by decide +kernel
theorem dL_law_735 : decode cL_law 735 = .ok (.invokevirtual 73, 3) := by decide +kernel
theorem dL_law_738 : decode cL_law 738 = .ok (.if_icmp .eq 81, 3) := by decide +kernel
theorem dL_law_741 : decode cL_law 741 = .ok (.iconst 0, 1) := by decide +kernel
theorem dL_law_742 : decode cL_law 742 = .ok (.ireturn, 1) := by decide +kernel
theorem dL_law_743 : decode cL_law 743 = .ok (.aload_n 1, 1) := by decide +kernel
theorem dL_law_744 : decode cL_law 744 = .ok (.aload_n 0, 1) := by decide +kernel
theorem dL_law_745 : decode cL_law 745 = .ok (.iload_n 3, 1) := by decide +kernel
theorem dL_law_746 : decode cL_law 746 = .ok (.iconst 1, 1) := by decide +kernel
theorem dL_law_747 : decode cL_law 747 = .ok (.iadd, 1) := by decide +kernel
theorem dL_law_748 : decode cL_law 748 = .ok (.iaload, 1) := by decide +kernel
theorem dL_law_749 : decode cL_law 749 = .ok (.aload_n 0, 1) := by decide +kernel
theorem dL_law_750 : decode cL_law 750 = .ok (.iload_n 3, 1) := by decide +kernel
theorem dL_law_751 : decode cL_law 751 = .ok (.iconst 2, 1) := by decide +kernel
theorem dL_law_752 : decode cL_law 752 = .ok (.iadd, 1) := by decide +kernel
theorem dL_law_753 : decode cL_law 753 = .ok (.iaload, 1) := by decide +kernel
theorem dL_law_754 : decode cL_law 754 = .ok (.aload_n 0, 1) := by decide +kernel
theorem dL_law_755 : decode cL_law 755 = .ok (.iload_n 3, 1) := by decide +kernel
theorem dL_law_756 : decode cL_law 756 = .ok (.iconst 3, 1) := by decide +kernel
theorem dL_law_757 : decode cL_law 757 = .ok (.iadd, 1) := by decide +kernel
theorem dL_law_758 : decode cL_law 758 = .ok (.iaload, 1) := by decide +kernel
theorem dL_law_759 : decode cL_law 759 = .ok (.invokevirtual 74, 3) := by decide +kernel
theorem dL_law_762 : decode cL_law 762 = .ok (.aload_n 2, 1) := by decide +kernel
theorem dL_law_763 : decode cL_law 763 = .ok (.aload_n 0, 1) := by decide +kernel
theorem dL_law_764 : decode cL_law 764 = .ok (.iload_n 3, 1) := by decide +kernel
theorem dL_law_765 : decode cL_law 765 = .ok (.iconst 1, 1) := by decide +kernel
theorem dL_law_766 : decode cL_law 766 = .ok (.iadd, 1) := by decide +kernel
theorem dL_law_767 : decode cL_law 767 = .ok (.iaload, 1) := by decide +kernel
theorem dL_law_768 : decode cL_law 768 = .ok (.aload_n 0, 1) := by decide +kernel
theorem dL_law_769 : decode cL_law 769 = .ok (.iload_n 3, 1) := by decide +kernel
theorem dL_law_770 : decode cL_law 770 = .ok (.iconst 2, 1) := by decide +kernel
theorem dL_law_771 : decode cL_law 771 = .ok (.iadd, 1) := by decide +kernel
theorem dL_law_772 : decode cL_law 772 = .ok (.iaload, 1) := by decide +kernel
theorem dL_law_773 : decode cL_law 773 = .ok (.aload_n 0, 1) := by decide +kernel
theorem dL_law_774 : decode cL_law 774 = .ok (.iload_n 3, 1) := by decide +kernel
theorem dL_law_775 : decode cL_law 775 = .ok (.iconst 3, 1) := by decide +kernel
theorem dL_law_776 : decode cL_law 776 = .ok (.iadd, 1) := by decide +kernel
theorem dL_law_777 : decode cL_law 777 = .ok (.iaload, 1) := by decide +kernel
theorem dL_law_778 : decode cL_law 778 = .ok (.invokevirtual 78, 3) := by decide +kernel
theorem dL_law_781 : decode cL_law 781 = .ok (.if_icmp .eq 38, 3) := by decide +kernel
theorem dL_law_784 : decode cL_law 784 = .ok (.iconst 0, 1) := by decide +kernel
theorem dL_law_785 : decode cL_law 785 = .ok (.ireturn, 1) := by decide +kernel
theorem dL_law_786 : decode cL_law 786 = .ok (.aload_n 1, 1) := by decide +kernel
theorem dL_law_787 : decode cL_law 787 = .ok (.aload_n 0, 1) := by decide +kernel
theorem dL_law_788 : decode cL_law 788 = .ok (.iload_n 3, 1) := by decide +kernel
theorem dL_law_789 : decode cL_law 789 = .ok (.iconst 1, 1) := by decide +kernel
theorem dL_law_790 : decode cL_law 790 = .ok (.iadd, 1) := by decide +kernel
theorem dL_law_791 : decode cL_law 791 = .ok (.iaload, 1) := by decide +kernel
theorem dL_law_792 : decode cL_law 792 = .ok (.aload_n 0, 1) := by decide +kernel
theorem dL_law_793 : decode cL_law 793 = .ok (.iload_n 3, 1) := by decide +kernel
theorem dL_law_794 : decode cL_law 794 = .ok (.iconst 2, 1) := by decide +kernel
theorem dL_law_795 : decode cL_law 795 = .ok (.iadd, 1) := by decide +kernel
theorem dL_law_796 : decode cL_law 796 = .ok (.iaload, 1) := by decide +kernel
theorem dL_law_797 : decode cL_law 797 = .ok (.invokevirtual 79, 3) := by decide +kernel
theorem dL_law_800 : decode cL_law 800 = .ok (.aload_n 2, 1) := by decide +kernel
theorem dL_law_801 : decode cL_law 801 = .ok (.aload_n 0, 1) := by decide +kernel
theorem dL_law_802 : decode cL_law 802 = .ok (.iload_n 3, 1) := by decide +kernel
theorem dL_law_803 : decode cL_law 803 = .ok (.iconst 1, 1) := by decide +kernel
theorem dL_law_804 : decode cL_law 804 = .ok (.iadd, 1) := by decide +kernel
theorem dL_law_805 : decode cL_law 805 = .ok (.iaload, 1) := by decide +kernel
theorem dL_law_806 : decode cL_law 806 = .ok (.aload_n 0, 1) := by decide +kernel
theorem dL_law_807 : decode cL_law 807 = .ok (.iload_n 3, 1) := by decide +kernel
theorem dL_law_808 : decode cL_law 808 = .ok (.iconst 2, 1) := by decide +kernel
theorem dL_law_809 : decode cL_law 809 = .ok (.iadd, 1) := by decide +kernel
theorem dL_law_810 : decode cL_law 810 = .ok (.iaload, 1) := by decide +kernel
theorem dL_law_811 : decode cL_law 811 = .ok (.invokevirtual 82, 3) := by decide +kernel
theorem dL_law_814 : decode cL_law 814 = .ok (.if_icmp .eq 5, 3) := by decide +kernel
theorem dL_law_817 : decode cL_law 817 = .ok (.iconst 0, 1) := by decide +kernel
theorem dL_law_818 : decode cL_law 818 = .ok (.ireturn, 1) := by decide +kernel
theorem dL_law_819 : decode cL_law 819 = .ok (.iinc 3 6, 3) := by decide +kernel
theorem dL_law_822 : decode cL_law 822 = .ok (.goto (-804), 3) := by decide +kernel
theorem dL_law_825 : decode cL_law 825 = .ok (.iconst 1, 1) := by decide +kernel
theorem dL_law_826 : decode cL_law 826 = .ok (.ireturn, 1) := by decide +kernel
end

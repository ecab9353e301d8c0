-- ===== PART A: goes FIRST, ahead of the names: the tables' words, and 'selects' of the private methods out of them =====
/-- a private method of a class that the tables say can be made, by its rows of tables_1 -/
def lw_okq (q : MethodName × Nat) : Prop := (q.1.cls ≠ "java/lang/invoke/MethodHandle" ∧ q.1.cls ≠ "java/lang/invoke/VarHandle") ∧ Cond.instantiable q.1.cls q.2 ∈ tables_1 ∧ Cond.privateMethod q.1 ∈ tables_1 ∧ Cond.instanceMethod q.1 ∈ tables_1
theorem lw_p0 : lw_okq (⟨"PlateVote$Sea", "spread", "(II)V"⟩, 13) := ⟨⟨by decide +kernel, by decide +kernel⟩, List.mem_of_getElem? (i := 40) (by decide +kernel), List.mem_of_getElem? (i := 207) (by decide +kernel), List.mem_of_getElem? (i := 208) (by decide +kernel)⟩
theorem lw_p1 : lw_okq (⟨"PlateVote", "tapeNumber", "(I)V"⟩, 17) := ⟨⟨by decide +kernel, by decide +kernel⟩, List.mem_of_getElem? (i := 26) (by decide +kernel), List.mem_of_getElem? (i := 705) (by decide +kernel), List.mem_of_getElem? (i := 706) (by decide +kernel)⟩
theorem lw_p2 : lw_okq (⟨"PlateVote$Scanner", "scanWord", "()V"⟩, 10) := ⟨⟨by decide +kernel, by decide +kernel⟩, List.mem_of_getElem? (i := 309) (by decide +kernel), List.mem_of_getElem? (i := 731) (by decide +kernel), List.mem_of_getElem? (i := 732) (by decide +kernel)⟩
theorem lw_p3 : lw_okq (⟨"PlateVote$Scanner", "scanNumber", "()V"⟩, 10) := ⟨⟨by decide +kernel, by decide +kernel⟩, List.mem_of_getElem? (i := 309) (by decide +kernel), List.mem_of_getElem? (i := 738) (by decide +kernel), List.mem_of_getElem? (i := 739) (by decide +kernel)⟩
theorem lw_p4 : lw_okq (⟨"PlateVote$Scanner", "scanSign", "(I)V"⟩, 10) := ⟨⟨by decide +kernel, by decide +kernel⟩, List.mem_of_getElem? (i := 309) (by decide +kernel), List.mem_of_getElem? (i := 743) (by decide +kernel), List.mem_of_getElem? (i := 744) (by decide +kernel)⟩
theorem lw_p5 : lw_okq (⟨"PlateVote$Scanner", "follows", "(I)Z"⟩, 10) := ⟨⟨by decide +kernel, by decide +kernel⟩, List.mem_of_getElem? (i := 309) (by decide +kernel), List.mem_of_getElem? (i := 747) (by decide +kernel), List.mem_of_getElem? (i := 748) (by decide +kernel)⟩
theorem lw_p6 : lw_okq (⟨"PlateVote$Reader", "advance", "()V"⟩, 19) := ⟨⟨by decide +kernel, by decide +kernel⟩, List.mem_of_getElem? (i := 303) (by decide +kernel), List.mem_of_getElem? (i := 751) (by decide +kernel), List.mem_of_getElem? (i := 752) (by decide +kernel)⟩
theorem lw_p7 : lw_okq (⟨"PlateVote$Reader", "readLine", "()Z"⟩, 19) := ⟨⟨by decide +kernel, by decide +kernel⟩, List.mem_of_getElem? (i := 303) (by decide +kernel), List.mem_of_getElem? (i := 757) (by decide +kernel), List.mem_of_getElem? (i := 758) (by decide +kernel)⟩
theorem lw_p8 : lw_okq (⟨"PlateVote$Reader", "readSea", "(I)Z"⟩, 19) := ⟨⟨by decide +kernel, by decide +kernel⟩, List.mem_of_getElem? (i := 303) (by decide +kernel), List.mem_of_getElem? (i := 761) (by decide +kernel), List.mem_of_getElem? (i := 762) (by decide +kernel)⟩
theorem lw_p9 : lw_okq (⟨"PlateVote$Reader", "tellOnce", "(II)Z"⟩, 19) := ⟨⟨by decide +kernel, by decide +kernel⟩, List.mem_of_getElem? (i := 303) (by decide +kernel), List.mem_of_getElem? (i := 765) (by decide +kernel), List.mem_of_getElem? (i := 766) (by decide +kernel)⟩
theorem lw_p10 : lw_okq (⟨"PlateVote$Reader", "isTold", "(I)Z"⟩, 19) := ⟨⟨by decide +kernel, by decide +kernel⟩, List.mem_of_getElem? (i := 303) (by decide +kernel), List.mem_of_getElem? (i := 769) (by decide +kernel), List.mem_of_getElem? (i := 770) (by decide +kernel)⟩
theorem lw_p11 : lw_okq (⟨"PlateVote$Reader", "wrong", "(II)Z"⟩, 19) := ⟨⟨by decide +kernel, by decide +kernel⟩, List.mem_of_getElem? (i := 303) (by decide +kernel), List.mem_of_getElem? (i := 773) (by decide +kernel), List.mem_of_getElem? (i := 774) (by decide +kernel)⟩
theorem lw_p12 : lw_okq (⟨"PlateVote$Reader", "readNumber", "(II)Z"⟩, 19) := ⟨⟨by decide +kernel, by decide +kernel⟩, List.mem_of_getElem? (i := 303) (by decide +kernel), List.mem_of_getElem? (i := 777) (by decide +kernel), List.mem_of_getElem? (i := 778) (by decide +kernel)⟩
theorem lw_p13 : lw_okq (⟨"PlateVote$Reader", "readLand", "(I)Z"⟩, 19) := ⟨⟨by decide +kernel, by decide +kernel⟩, List.mem_of_getElem? (i := 303) (by decide +kernel), List.mem_of_getElem? (i := 781) (by decide +kernel), List.mem_of_getElem? (i := 782) (by decide +kernel)⟩
theorem lw_p14 : lw_okq (⟨"PlateVote$Reader", "readCell", "()Z"⟩, 19) := ⟨⟨by decide +kernel, by decide +kernel⟩, List.mem_of_getElem? (i := 303) (by decide +kernel), List.mem_of_getElem? (i := 785) (by decide +kernel), List.mem_of_getElem? (i := 786) (by decide +kernel)⟩
theorem lw_p15 : lw_okq (⟨"PlateVote$Reader", "readShip", "(II)Z"⟩, 19) := ⟨⟨by decide +kernel, by decide +kernel⟩, List.mem_of_getElem? (i := 303) (by decide +kernel), List.mem_of_getElem? (i := 797) (by decide +kernel), List.mem_of_getElem? (i := 798) (by decide +kernel)⟩
def lw_privs_1 : List (MethodName × Nat) := [(⟨"PlateVote$Sea", "spread", "(II)V"⟩, 13), (⟨"PlateVote", "tapeNumber", "(I)V"⟩, 17), (⟨"PlateVote$Scanner", "scanWord", "()V"⟩, 10), (⟨"PlateVote$Scanner", "scanNumber", "()V"⟩, 10), (⟨"PlateVote$Scanner", "scanSign", "(I)V"⟩, 10), (⟨"PlateVote$Scanner", "follows", "(I)Z"⟩, 10), (⟨"PlateVote$Reader", "advance", "()V"⟩, 19), (⟨"PlateVote$Reader", "readLine", "()Z"⟩, 19), (⟨"PlateVote$Reader", "readSea", "(I)Z"⟩, 19), (⟨"PlateVote$Reader", "tellOnce", "(II)Z"⟩, 19), (⟨"PlateVote$Reader", "isTold", "(I)Z"⟩, 19), (⟨"PlateVote$Reader", "wrong", "(II)Z"⟩, 19), (⟨"PlateVote$Reader", "readNumber", "(II)Z"⟩, 19), (⟨"PlateVote$Reader", "readLand", "(I)Z"⟩, 19), (⟨"PlateVote$Reader", "readCell", "()Z"⟩, 19), (⟨"PlateVote$Reader", "readShip", "(II)Z"⟩, 19)]
theorem lw_r1 : ∀ q ∈ lw_privs_1, lw_okq q := List.forall_mem_cons.mpr ⟨lw_p0, List.forall_mem_cons.mpr ⟨lw_p1, List.forall_mem_cons.mpr ⟨lw_p2, List.forall_mem_cons.mpr ⟨lw_p3, List.forall_mem_cons.mpr ⟨lw_p4, List.forall_mem_cons.mpr ⟨lw_p5, List.forall_mem_cons.mpr ⟨lw_p6, List.forall_mem_cons.mpr ⟨lw_p7, List.forall_mem_cons.mpr ⟨lw_p8, List.forall_mem_cons.mpr ⟨lw_p9, List.forall_mem_cons.mpr ⟨lw_p10, List.forall_mem_cons.mpr ⟨lw_p11, List.forall_mem_cons.mpr ⟨lw_p12, List.forall_mem_cons.mpr ⟨lw_p13, List.forall_mem_cons.mpr ⟨lw_p14, List.forall_mem_cons.mpr ⟨lw_p15, fun _ h => absurd h List.not_mem_nil⟩⟩⟩⟩⟩⟩⟩⟩⟩⟩⟩⟩⟩⟩⟩⟩
theorem lw_p16 : lw_okq (⟨"PlateVote$Reader", "readCellOfWater", "()Z"⟩, 19) := ⟨⟨by decide +kernel, by decide +kernel⟩, List.mem_of_getElem? (i := 303) (by decide +kernel), List.mem_of_getElem? (i := 801) (by decide +kernel), List.mem_of_getElem? (i := 802) (by decide +kernel)⟩
theorem lw_p17 : lw_okq (⟨"PlateVote$Reader", "readIsle", "(I)Z"⟩, 19) := ⟨⟨by decide +kernel, by decide +kernel⟩, List.mem_of_getElem? (i := 303) (by decide +kernel), List.mem_of_getElem? (i := 805) (by decide +kernel), List.mem_of_getElem? (i := 806) (by decide +kernel)⟩
theorem lw_p18 : lw_okq (⟨"PlateVote$Reader", "readWind", "(I)Z"⟩, 19) := ⟨⟨by decide +kernel, by decide +kernel⟩, List.mem_of_getElem? (i := 303) (by decide +kernel), List.mem_of_getElem? (i := 813) (by decide +kernel), List.mem_of_getElem? (i := 814) (by decide +kernel)⟩
theorem lw_p19 : lw_okq (⟨"PlateVote$Reader", "readGale", "(I)Z"⟩, 19) := ⟨⟨by decide +kernel, by decide +kernel⟩, List.mem_of_getElem? (i := 303) (by decide +kernel), List.mem_of_getElem? (i := 817) (by decide +kernel), List.mem_of_getElem? (i := 818) (by decide +kernel)⟩
theorem lw_p20 : lw_okq (⟨"PlateVote$Reader", "readStorm", "(I)Z"⟩, 19) := ⟨⟨by decide +kernel, by decide +kernel⟩, List.mem_of_getElem? (i := 303) (by decide +kernel), List.mem_of_getElem? (i := 821) (by decide +kernel), List.mem_of_getElem? (i := 822) (by decide +kernel)⟩
theorem lw_p21 : lw_okq (⟨"PlateVote$Reader", "readStore", "(II)Z"⟩, 19) := ⟨⟨by decide +kernel, by decide +kernel⟩, List.mem_of_getElem? (i := 303) (by decide +kernel), List.mem_of_getElem? (i := 825) (by decide +kernel), List.mem_of_getElem? (i := 826) (by decide +kernel)⟩
theorem lw_p22 : lw_okq (⟨"PlateVote$Reader", "readMouth", "(II)Z"⟩, 19) := ⟨⟨by decide +kernel, by decide +kernel⟩, List.mem_of_getElem? (i := 303) (by decide +kernel), List.mem_of_getElem? (i := 830) (by decide +kernel), List.mem_of_getElem? (i := 831) (by decide +kernel)⟩
theorem lw_p23 : lw_okq (⟨"PlateVote$Reader", "isCrewName", "(I)Z"⟩, 19) := ⟨⟨by decide +kernel, by decide +kernel⟩, List.mem_of_getElem? (i := 303) (by decide +kernel), List.mem_of_getElem? (i := 834) (by decide +kernel), List.mem_of_getElem? (i := 835) (by decide +kernel)⟩
theorem lw_p24 : lw_okq (⟨"PlateVote$Reader", "readOdds", "(LPlateVote$Mouth;)Z"⟩, 19) := ⟨⟨by decide +kernel, by decide +kernel⟩, List.mem_of_getElem? (i := 303) (by decide +kernel), List.mem_of_getElem? (i := 842) (by decide +kernel), List.mem_of_getElem? (i := 843) (by decide +kernel)⟩
theorem lw_p25 : lw_okq (⟨"PlateVote$Reader", "readRest", "(LPlateVote$Mouth;)Z"⟩, 19) := ⟨⟨by decide +kernel, by decide +kernel⟩, List.mem_of_getElem? (i := 303) (by decide +kernel), List.mem_of_getElem? (i := 846) (by decide +kernel), List.mem_of_getElem? (i := 847) (by decide +kernel)⟩
theorem lw_p26 : lw_okq (⟨"PlateVote$Reader", "readSick", "(LPlateVote$Mouth;)Z"⟩, 19) := ⟨⟨by decide +kernel, by decide +kernel⟩, List.mem_of_getElem? (i := 303) (by decide +kernel), List.mem_of_getElem? (i := 850) (by decide +kernel), List.mem_of_getElem? (i := 851) (by decide +kernel)⟩
theorem lw_p27 : lw_okq (⟨"PlateVote$Reader", "readLoses", "(LPlateVote$Mouth;)Z"⟩, 19) := ⟨⟨by decide +kernel, by decide +kernel⟩, List.mem_of_getElem? (i := 303) (by decide +kernel), List.mem_of_getElem? (i := 854) (by decide +kernel), List.mem_of_getElem? (i := 855) (by decide +kernel)⟩
theorem lw_p28 : lw_okq (⟨"PlateVote$Reader", "readStay", "(LPlateVote$Mouth;I)Z"⟩, 19) := ⟨⟨by decide +kernel, by decide +kernel⟩, List.mem_of_getElem? (i := 303) (by decide +kernel), List.mem_of_getElem? (i := 858) (by decide +kernel), List.mem_of_getElem? (i := 859) (by decide +kernel)⟩
theorem lw_p29 : lw_okq (⟨"PlateVote$Reader", "readExpression", "(LPlateVote$Mouth;)Z"⟩, 19) := ⟨⟨by decide +kernel, by decide +kernel⟩, List.mem_of_getElem? (i := 303) (by decide +kernel), List.mem_of_getElem? (i := 862) (by decide +kernel), List.mem_of_getElem? (i := 863) (by decide +kernel)⟩
theorem lw_p30 : lw_okq (⟨"PlateVote$Reader", "goesOn", "()Z"⟩, 19) := ⟨⟨by decide +kernel, by decide +kernel⟩, List.mem_of_getElem? (i := 303) (by decide +kernel), List.mem_of_getElem? (i := 866) (by decide +kernel), List.mem_of_getElem? (i := 867) (by decide +kernel)⟩
theorem lw_p31 : lw_okq (⟨"PlateVote$Reader", "takePart", "()Z"⟩, 19) := ⟨⟨by decide +kernel, by decide +kernel⟩, List.mem_of_getElem? (i := 303) (by decide +kernel), List.mem_of_getElem? (i := 870) (by decide +kernel), List.mem_of_getElem? (i := 871) (by decide +kernel)⟩
def lw_privs_2 : List (MethodName × Nat) := [(⟨"PlateVote$Reader", "readCellOfWater", "()Z"⟩, 19), (⟨"PlateVote$Reader", "readIsle", "(I)Z"⟩, 19), (⟨"PlateVote$Reader", "readWind", "(I)Z"⟩, 19), (⟨"PlateVote$Reader", "readGale", "(I)Z"⟩, 19), (⟨"PlateVote$Reader", "readStorm", "(I)Z"⟩, 19), (⟨"PlateVote$Reader", "readStore", "(II)Z"⟩, 19), (⟨"PlateVote$Reader", "readMouth", "(II)Z"⟩, 19), (⟨"PlateVote$Reader", "isCrewName", "(I)Z"⟩, 19), (⟨"PlateVote$Reader", "readOdds", "(LPlateVote$Mouth;)Z"⟩, 19), (⟨"PlateVote$Reader", "readRest", "(LPlateVote$Mouth;)Z"⟩, 19), (⟨"PlateVote$Reader", "readSick", "(LPlateVote$Mouth;)Z"⟩, 19), (⟨"PlateVote$Reader", "readLoses", "(LPlateVote$Mouth;)Z"⟩, 19), (⟨"PlateVote$Reader", "readStay", "(LPlateVote$Mouth;I)Z"⟩, 19), (⟨"PlateVote$Reader", "readExpression", "(LPlateVote$Mouth;)Z"⟩, 19), (⟨"PlateVote$Reader", "goesOn", "()Z"⟩, 19), (⟨"PlateVote$Reader", "takePart", "()Z"⟩, 19)]
theorem lw_r2 : ∀ q ∈ lw_privs_2, lw_okq q := List.forall_mem_cons.mpr ⟨lw_p16, List.forall_mem_cons.mpr ⟨lw_p17, List.forall_mem_cons.mpr ⟨lw_p18, List.forall_mem_cons.mpr ⟨lw_p19, List.forall_mem_cons.mpr ⟨lw_p20, List.forall_mem_cons.mpr ⟨lw_p21, List.forall_mem_cons.mpr ⟨lw_p22, List.forall_mem_cons.mpr ⟨lw_p23, List.forall_mem_cons.mpr ⟨lw_p24, List.forall_mem_cons.mpr ⟨lw_p25, List.forall_mem_cons.mpr ⟨lw_p26, List.forall_mem_cons.mpr ⟨lw_p27, List.forall_mem_cons.mpr ⟨lw_p28, List.forall_mem_cons.mpr ⟨lw_p29, List.forall_mem_cons.mpr ⟨lw_p30, List.forall_mem_cons.mpr ⟨lw_p31, fun _ h => absurd h List.not_mem_nil⟩⟩⟩⟩⟩⟩⟩⟩⟩⟩⟩⟩⟩⟩⟩⟩
theorem lw_p32 : lw_okq (⟨"PlateVote$Reader", "countKnot", "()Z"⟩, 19) := ⟨⟨by decide +kernel, by decide +kernel⟩, List.mem_of_getElem? (i := 303) (by decide +kernel), List.mem_of_getElem? (i := 874) (by decide +kernel), List.mem_of_getElem? (i := 875) (by decide +kernel)⟩
theorem lw_p33 : lw_okq (⟨"PlateVote$Reader", "addLeaf", "()Z"⟩, 19) := ⟨⟨by decide +kernel, by decide +kernel⟩, List.mem_of_getElem? (i := 303) (by decide +kernel), List.mem_of_getElem? (i := 878) (by decide +kernel), List.mem_of_getElem? (i := 879) (by decide +kernel)⟩
theorem lw_p34 : lw_okq (⟨"PlateVote$Reader", "defer", "(I)Z"⟩, 19) := ⟨⟨by decide +kernel, by decide +kernel⟩, List.mem_of_getElem? (i := 303) (by decide +kernel), List.mem_of_getElem? (i := 886) (by decide +kernel), List.mem_of_getElem? (i := 887) (by decide +kernel)⟩
theorem lw_p35 : lw_okq (⟨"PlateVote$Reader", "rankOnTop", "()I"⟩, 19) := ⟨⟨by decide +kernel, by decide +kernel⟩, List.mem_of_getElem? (i := 303) (by decide +kernel), List.mem_of_getElem? (i := 890) (by decide +kernel), List.mem_of_getElem? (i := 891) (by decide +kernel)⟩
theorem lw_p36 : lw_okq (⟨"PlateVote$Reader", "takeSign", "()Z"⟩, 19) := ⟨⟨by decide +kernel, by decide +kernel⟩, List.mem_of_getElem? (i := 303) (by decide +kernel), List.mem_of_getElem? (i := 899) (by decide +kernel), List.mem_of_getElem? (i := 900) (by decide +kernel)⟩
theorem lw_p37 : lw_okq (⟨"PlateVote$Reader", "release", "(I)V"⟩, 19) := ⟨⟨by decide +kernel, by decide +kernel⟩, List.mem_of_getElem? (i := 303) (by decide +kernel), List.mem_of_getElem? (i := 903) (by decide +kernel), List.mem_of_getElem? (i := 904) (by decide +kernel)⟩
theorem lw_p38 : lw_okq (⟨"PlateVote$Reader", "endLine", "()Z"⟩, 19) := ⟨⟨by decide +kernel, by decide +kernel⟩, List.mem_of_getElem? (i := 303) (by decide +kernel), List.mem_of_getElem? (i := 907) (by decide +kernel), List.mem_of_getElem? (i := 908) (by decide +kernel)⟩
theorem lw_p39 : lw_okq (⟨"PlateVote", "mealIsNext", "()Z"⟩, 17) := ⟨⟨by decide +kernel, by decide +kernel⟩, List.mem_of_getElem? (i := 26) (by decide +kernel), List.mem_of_getElem? (i := 963) (by decide +kernel), List.mem_of_getElem? (i := 964) (by decide +kernel)⟩
theorem lw_p40 : lw_okq (⟨"PlateVote$Galley", "give", "(II)V"⟩, 11) := ⟨⟨by decide +kernel, by decide +kernel⟩, List.mem_of_getElem? (i := 460) (by decide +kernel), List.mem_of_getElem? (i := 1038) (by decide +kernel), List.mem_of_getElem? (i := 1039) (by decide +kernel)⟩
theorem lw_p41 : lw_okq (⟨"PlateVote$Galley", "bribe", "(LPlateVote$Voyage;I)I"⟩, 11) := ⟨⟨by decide +kernel, by decide +kernel⟩, List.mem_of_getElem? (i := 460) (by decide +kernel), List.mem_of_getElem? (i := 1047) (by decide +kernel), List.mem_of_getElem? (i := 1048) (by decide +kernel)⟩
theorem lw_p42 : lw_okq (⟨"PlateVote", "holdMeal", "()V"⟩, 17) := ⟨⟨by decide +kernel, by decide +kernel⟩, List.mem_of_getElem? (i := 26) (by decide +kernel), List.mem_of_getElem? (i := 1063) (by decide +kernel), List.mem_of_getElem? (i := 1064) (by decide +kernel)⟩
theorem lw_p43 : lw_okq (⟨"PlateVote$Galley", "blow", "(LPlateVote$Voyage;)V"⟩, 11) := ⟨⟨by decide +kernel, by decide +kernel⟩, List.mem_of_getElem? (i := 460) (by decide +kernel), List.mem_of_getElem? (i := 1078) (by decide +kernel), List.mem_of_getElem? (i := 1079) (by decide +kernel)⟩
theorem lw_p44 : lw_okq (⟨"PlateVote", "isGone", "(I)Z"⟩, 17) := ⟨⟨by decide +kernel, by decide +kernel⟩, List.mem_of_getElem? (i := 26) (by decide +kernel), List.mem_of_getElem? (i := 1106) (by decide +kernel), List.mem_of_getElem? (i := 1107) (by decide +kernel)⟩
theorem lw_p45 : lw_okq (⟨"PlateVote$Planner", "search", "(III)V"⟩, 6) := ⟨⟨by decide +kernel, by decide +kernel⟩, List.mem_of_getElem? (i := 509) (by decide +kernel), List.mem_of_getElem? (i := 1119) (by decide +kernel), List.mem_of_getElem? (i := 1120) (by decide +kernel)⟩
theorem lw_p46 : lw_okq (⟨"PlateVote$Planner", "isTooFar", "(LPlateVote$Voyage;I)Z"⟩, 6) := ⟨⟨by decide +kernel, by decide +kernel⟩, List.mem_of_getElem? (i := 509) (by decide +kernel), List.mem_of_getElem? (i := 1123) (by decide +kernel), List.mem_of_getElem? (i := 1124) (by decide +kernel)⟩
theorem lw_p47 : lw_okq (⟨"PlateVote$Planner", "isWorse", "(II)Z"⟩, 6) := ⟨⟨by decide +kernel, by decide +kernel⟩, List.mem_of_getElem? (i := 509) (by decide +kernel), List.mem_of_getElem? (i := 1144) (by decide +kernel), List.mem_of_getElem? (i := 1145) (by decide +kernel)⟩
def lw_privs_3 : List (MethodName × Nat) := [(⟨"PlateVote$Reader", "countKnot", "()Z"⟩, 19), (⟨"PlateVote$Reader", "addLeaf", "()Z"⟩, 19), (⟨"PlateVote$Reader", "defer", "(I)Z"⟩, 19), (⟨"PlateVote$Reader", "rankOnTop", "()I"⟩, 19), (⟨"PlateVote$Reader", "takeSign", "()Z"⟩, 19), (⟨"PlateVote$Reader", "release", "(I)V"⟩, 19), (⟨"PlateVote$Reader", "endLine", "()Z"⟩, 19), (⟨"PlateVote", "mealIsNext", "()Z"⟩, 17), (⟨"PlateVote$Galley", "give", "(II)V"⟩, 11), (⟨"PlateVote$Galley", "bribe", "(LPlateVote$Voyage;I)I"⟩, 11), (⟨"PlateVote", "holdMeal", "()V"⟩, 17), (⟨"PlateVote$Galley", "blow", "(LPlateVote$Voyage;)V"⟩, 11), (⟨"PlateVote", "isGone", "(I)Z"⟩, 17), (⟨"PlateVote$Planner", "search", "(III)V"⟩, 6), (⟨"PlateVote$Planner", "isTooFar", "(LPlateVote$Voyage;I)Z"⟩, 6), (⟨"PlateVote$Planner", "isWorse", "(II)Z"⟩, 6)]
theorem lw_r3 : ∀ q ∈ lw_privs_3, lw_okq q := List.forall_mem_cons.mpr ⟨lw_p32, List.forall_mem_cons.mpr ⟨lw_p33, List.forall_mem_cons.mpr ⟨lw_p34, List.forall_mem_cons.mpr ⟨lw_p35, List.forall_mem_cons.mpr ⟨lw_p36, List.forall_mem_cons.mpr ⟨lw_p37, List.forall_mem_cons.mpr ⟨lw_p38, List.forall_mem_cons.mpr ⟨lw_p39, List.forall_mem_cons.mpr ⟨lw_p40, List.forall_mem_cons.mpr ⟨lw_p41, List.forall_mem_cons.mpr ⟨lw_p42, List.forall_mem_cons.mpr ⟨lw_p43, List.forall_mem_cons.mpr ⟨lw_p44, List.forall_mem_cons.mpr ⟨lw_p45, List.forall_mem_cons.mpr ⟨lw_p46, List.forall_mem_cons.mpr ⟨lw_p47, fun _ h => absurd h List.not_mem_nil⟩⟩⟩⟩⟩⟩⟩⟩⟩⟩⟩⟩⟩⟩⟩⟩
theorem lw_p48 : lw_okq (⟨"PlateVote$Planner", "take", "(II)V"⟩, 6) := ⟨⟨by decide +kernel, by decide +kernel⟩, List.mem_of_getElem? (i := 509) (by decide +kernel), List.mem_of_getElem? (i := 1151) (by decide +kernel), List.mem_of_getElem? (i := 1152) (by decide +kernel)⟩
theorem lw_p49 : lw_okq (⟨"PlateVote", "note", "(III)I"⟩, 17) := ⟨⟨by decide +kernel, by decide +kernel⟩, List.mem_of_getElem? (i := 26) (by decide +kernel), List.mem_of_getElem? (i := 1185) (by decide +kernel), List.mem_of_getElem? (i := 1186) (by decide +kernel)⟩
theorem lw_p50 : lw_okq (⟨"PlateVote", "fitting", "()I"⟩, 17) := ⟨⟨by decide +kernel, by decide +kernel⟩, List.mem_of_getElem? (i := 26) (by decide +kernel), List.mem_of_getElem? (i := 1209) (by decide +kernel), List.mem_of_getElem? (i := 1210) (by decide +kernel)⟩
theorem lw_p51 : lw_okq (⟨"PlateVote$Notes", "counts", "(I)Z"⟩, 6) := ⟨⟨by decide +kernel, by decide +kernel⟩, List.mem_of_getElem? (i := 617) (by decide +kernel), List.mem_of_getElem? (i := 1226) (by decide +kernel), List.mem_of_getElem? (i := 1227) (by decide +kernel)⟩
theorem lw_p52 : lw_okq (⟨"java/lang/Throwable", "fillInStackTrace", "(I)Ljava/lang/Throwable;"⟩, 6) := ⟨⟨by decide +kernel, by decide +kernel⟩, List.mem_of_getElem? (i := 1326) (by decide +kernel), List.mem_of_getElem? (i := 1324) (by decide +kernel), List.mem_of_getElem? (i := 1325) (by decide +kernel)⟩
theorem lw_p53 : lw_okq (⟨"PlateVoteModel", "layFar", "()V"⟩, 80) := ⟨⟨by decide +kernel, by decide +kernel⟩, List.mem_of_getElem? (i := 1373) (by decide +kernel), List.mem_of_getElem? (i := 1379) (by decide +kernel), List.mem_of_getElem? (i := 1380) (by decide +kernel)⟩
theorem lw_p54 : lw_okq (⟨"PlateVoteModel", "cells", "()I"⟩, 80) := ⟨⟨by decide +kernel, by decide +kernel⟩, List.mem_of_getElem? (i := 1373) (by decide +kernel), List.mem_of_getElem? (i := 1383) (by decide +kernel), List.mem_of_getElem? (i := 1384) (by decide +kernel)⟩
theorem lw_p55 : lw_okq (⟨"PlateVoteModel", "leads", "(II)I"⟩, 80) := ⟨⟨by decide +kernel, by decide +kernel⟩, List.mem_of_getElem? (i := 1373) (by decide +kernel), List.mem_of_getElem? (i := 1387) (by decide +kernel), List.mem_of_getElem? (i := 1388) (by decide +kernel)⟩
theorem lw_p56 : lw_okq (⟨"PlateVoteModel", "begins", "(I)V"⟩, 80) := ⟨⟨by decide +kernel, by decide +kernel⟩, List.mem_of_getElem? (i := 1373) (by decide +kernel), List.mem_of_getElem? (i := 1391) (by decide +kernel), List.mem_of_getElem? (i := 1392) (by decide +kernel)⟩
theorem lw_p57 : lw_okq (⟨"PlateVoteModel", "reads", "(II)V"⟩, 80) := ⟨⟨by decide +kernel, by decide +kernel⟩, List.mem_of_getElem? (i := 1373) (by decide +kernel), List.mem_of_getElem? (i := 1648) (by decide +kernel), List.mem_of_getElem? (i := 1649) (by decide +kernel)⟩
theorem lw_p58 : lw_okq (⟨"PlateVoteModel", "token", "()V"⟩, 80) := ⟨⟨by decide +kernel, by decide +kernel⟩, List.mem_of_getElem? (i := 1373) (by decide +kernel), List.mem_of_getElem? (i := 1652) (by decide +kernel), List.mem_of_getElem? (i := 1653) (by decide +kernel)⟩
theorem lw_p59 : lw_okq (⟨"PlateVoteModel", "here", "()I"⟩, 80) := ⟨⟨by decide +kernel, by decide +kernel⟩, List.mem_of_getElem? (i := 1373) (by decide +kernel), List.mem_of_getElem? (i := 1656) (by decide +kernel), List.mem_of_getElem? (i := 1657) (by decide +kernel)⟩
theorem lw_p60 : lw_okq (⟨"PlateVoteModel", "word", "()I"⟩, 80) := ⟨⟨by decide +kernel, by decide +kernel⟩, List.mem_of_getElem? (i := 1373) (by decide +kernel), List.mem_of_getElem? (i := 1663) (by decide +kernel), List.mem_of_getElem? (i := 1664) (by decide +kernel)⟩
theorem lw_p61 : lw_okq (⟨"PlateVoteModel", "name", "()V"⟩, 80) := ⟨⟨by decide +kernel, by decide +kernel⟩, List.mem_of_getElem? (i := 1373) (by decide +kernel), List.mem_of_getElem? (i := 1670) (by decide +kernel), List.mem_of_getElem? (i := 1671) (by decide +kernel)⟩
theorem lw_p62 : lw_okq (⟨"PlateVoteModel", "sign", "(I)V"⟩, 80) := ⟨⟨by decide +kernel, by decide +kernel⟩, List.mem_of_getElem? (i := 1373) (by decide +kernel), List.mem_of_getElem? (i := 1678) (by decide +kernel), List.mem_of_getElem? (i := 1679) (by decide +kernel)⟩
theorem lw_p63 : lw_okq (⟨"PlateVoteModel", "line", "()V"⟩, 80) := ⟨⟨by decide +kernel, by decide +kernel⟩, List.mem_of_getElem? (i := 1373) (by decide +kernel), List.mem_of_getElem? (i := 1682) (by decide +kernel), List.mem_of_getElem? (i := 1683) (by decide +kernel)⟩
def lw_privs_4 : List (MethodName × Nat) := [(⟨"PlateVote$Planner", "take", "(II)V"⟩, 6), (⟨"PlateVote", "note", "(III)I"⟩, 17), (⟨"PlateVote", "fitting", "()I"⟩, 17), (⟨"PlateVote$Notes", "counts", "(I)Z"⟩, 6), (⟨"java/lang/Throwable", "fillInStackTrace", "(I)Ljava/lang/Throwable;"⟩, 6), (⟨"PlateVoteModel", "layFar", "()V"⟩, 80), (⟨"PlateVoteModel", "cells", "()I"⟩, 80), (⟨"PlateVoteModel", "leads", "(II)I"⟩, 80), (⟨"PlateVoteModel", "begins", "(I)V"⟩, 80), (⟨"PlateVoteModel", "reads", "(II)V"⟩, 80), (⟨"PlateVoteModel", "token", "()V"⟩, 80), (⟨"PlateVoteModel", "here", "()I"⟩, 80), (⟨"PlateVoteModel", "word", "()I"⟩, 80), (⟨"PlateVoteModel", "name", "()V"⟩, 80), (⟨"PlateVoteModel", "sign", "(I)V"⟩, 80), (⟨"PlateVoteModel", "line", "()V"⟩, 80)]
theorem lw_r4 : ∀ q ∈ lw_privs_4, lw_okq q := List.forall_mem_cons.mpr ⟨lw_p48, List.forall_mem_cons.mpr ⟨lw_p49, List.forall_mem_cons.mpr ⟨lw_p50, List.forall_mem_cons.mpr ⟨lw_p51, List.forall_mem_cons.mpr ⟨lw_p52, List.forall_mem_cons.mpr ⟨lw_p53, List.forall_mem_cons.mpr ⟨lw_p54, List.forall_mem_cons.mpr ⟨lw_p55, List.forall_mem_cons.mpr ⟨lw_p56, List.forall_mem_cons.mpr ⟨lw_p57, List.forall_mem_cons.mpr ⟨lw_p58, List.forall_mem_cons.mpr ⟨lw_p59, List.forall_mem_cons.mpr ⟨lw_p60, List.forall_mem_cons.mpr ⟨lw_p61, List.forall_mem_cons.mpr ⟨lw_p62, List.forall_mem_cons.mpr ⟨lw_p63, fun _ h => absurd h List.not_mem_nil⟩⟩⟩⟩⟩⟩⟩⟩⟩⟩⟩⟩⟩⟩⟩⟩
theorem lw_p64 : lw_okq (⟨"PlateVoteModel", "wrong", "(I)V"⟩, 80) := ⟨⟨by decide +kernel, by decide +kernel⟩, List.mem_of_getElem? (i := 1373) (by decide +kernel), List.mem_of_getElem? (i := 1686) (by decide +kernel), List.mem_of_getElem? (i := 1687) (by decide +kernel)⟩
theorem lw_p65 : lw_okq (⟨"PlateVoteModel", "isFull", "(I)Z"⟩, 80) := ⟨⟨by decide +kernel, by decide +kernel⟩, List.mem_of_getElem? (i := 1373) (by decide +kernel), List.mem_of_getElem? (i := 1690) (by decide +kernel), List.mem_of_getElem? (i := 1691) (by decide +kernel)⟩
theorem lw_p66 : lw_okq (⟨"PlateVoteModel", "fresher", "(I)I"⟩, 80) := ⟨⟨by decide +kernel, by decide +kernel⟩, List.mem_of_getElem? (i := 1373) (by decide +kernel), List.mem_of_getElem? (i := 1694) (by decide +kernel), List.mem_of_getElem? (i := 1695) (by decide +kernel)⟩
theorem lw_p67 : lw_okq (⟨"PlateVoteModel", "isTold", "(I)Z"⟩, 80) := ⟨⟨by decide +kernel, by decide +kernel⟩, List.mem_of_getElem? (i := 1373) (by decide +kernel), List.mem_of_getElem? (i := 1701) (by decide +kernel), List.mem_of_getElem? (i := 1702) (by decide +kernel)⟩
theorem lw_p68 : lw_okq (⟨"PlateVoteModel", "numeral", "(II)I"⟩, 80) := ⟨⟨by decide +kernel, by decide +kernel⟩, List.mem_of_getElem? (i := 1373) (by decide +kernel), List.mem_of_getElem? (i := 1705) (by decide +kernel), List.mem_of_getElem? (i := 1706) (by decide +kernel)⟩
theorem lw_p69 : lw_okq (⟨"PlateVoteModel", "numeralAtHand", "(II)I"⟩, 80) := ⟨⟨by decide +kernel, by decide +kernel⟩, List.mem_of_getElem? (i := 1373) (by decide +kernel), List.mem_of_getElem? (i := 1709) (by decide +kernel), List.mem_of_getElem? (i := 1710) (by decide +kernel)⟩
theorem lw_p70 : lw_okq (⟨"PlateVoteModel", "goOn", "()V"⟩, 80) := ⟨⟨by decide +kernel, by decide +kernel⟩, List.mem_of_getElem? (i := 1373) (by decide +kernel), List.mem_of_getElem? (i := 1713) (by decide +kernel), List.mem_of_getElem? (i := 1714) (by decide +kernel)⟩
theorem lw_p71 : lw_okq (⟨"PlateVoteModel", "landLine", "()V"⟩, 80) := ⟨⟨by decide +kernel, by decide +kernel⟩, List.mem_of_getElem? (i := 1373) (by decide +kernel), List.mem_of_getElem? (i := 1717) (by decide +kernel), List.mem_of_getElem? (i := 1718) (by decide +kernel)⟩
theorem lw_p72 : lw_okq (⟨"PlateVoteModel", "cellAtHand", "()I"⟩, 80) := ⟨⟨by decide +kernel, by decide +kernel⟩, List.mem_of_getElem? (i := 1373) (by decide +kernel), List.mem_of_getElem? (i := 1721) (by decide +kernel), List.mem_of_getElem? (i := 1722) (by decide +kernel)⟩
theorem lw_p73 : lw_okq (⟨"PlateVoteModel", "water", "()I"⟩, 80) := ⟨⟨by decide +kernel, by decide +kernel⟩, List.mem_of_getElem? (i := 1373) (by decide +kernel), List.mem_of_getElem? (i := 1725) (by decide +kernel), List.mem_of_getElem? (i := 1726) (by decide +kernel)⟩
theorem lw_p74 : lw_okq (⟨"PlateVoteModel", "isleLine", "(I)V"⟩, 80) := ⟨⟨by decide +kernel, by decide +kernel⟩, List.mem_of_getElem? (i := 1373) (by decide +kernel), List.mem_of_getElem? (i := 1729) (by decide +kernel), List.mem_of_getElem? (i := 1730) (by decide +kernel)⟩
theorem lw_p75 : lw_okq (⟨"PlateVoteModel", "windLine", "()V"⟩, 80) := ⟨⟨by decide +kernel, by decide +kernel⟩, List.mem_of_getElem? (i := 1373) (by decide +kernel), List.mem_of_getElem? (i := 1736) (by decide +kernel), List.mem_of_getElem? (i := 1737) (by decide +kernel)⟩
theorem lw_p76 : lw_okq (⟨"PlateVoteModel", "mouthLine", "(IZ)V"⟩, 80) := ⟨⟨by decide +kernel, by decide +kernel⟩, List.mem_of_getElem? (i := 1373) (by decide +kernel), List.mem_of_getElem? (i := 1740) (by decide +kernel), List.mem_of_getElem? (i := 1741) (by decide +kernel)⟩
theorem lw_p77 : lw_okq (⟨"PlateVoteModel", "mouthNamed", "(I)I"⟩, 80) := ⟨⟨by decide +kernel, by decide +kernel⟩, List.mem_of_getElem? (i := 1373) (by decide +kernel), List.mem_of_getElem? (i := 1744) (by decide +kernel), List.mem_of_getElem? (i := 1745) (by decide +kernel)⟩
theorem lw_p78 : lw_okq (⟨"PlateVoteModel", "isWord", "(I)Z"⟩, 80) := ⟨⟨by decide +kernel, by decide +kernel⟩, List.mem_of_getElem? (i := 1373) (by decide +kernel), List.mem_of_getElem? (i := 1748) (by decide +kernel), List.mem_of_getElem? (i := 1749) (by decide +kernel)⟩
theorem lw_p79 : lw_okq (⟨"PlateVoteModel", "expression", "()V"⟩, 80) := ⟨⟨by decide +kernel, by decide +kernel⟩, List.mem_of_getElem? (i := 1373) (by decide +kernel), List.mem_of_getElem? (i := 1752) (by decide +kernel), List.mem_of_getElem? (i := 1753) (by decide +kernel)⟩
def lw_privs_5 : List (MethodName × Nat) := [(⟨"PlateVoteModel", "wrong", "(I)V"⟩, 80), (⟨"PlateVoteModel", "isFull", "(I)Z"⟩, 80), (⟨"PlateVoteModel", "fresher", "(I)I"⟩, 80), (⟨"PlateVoteModel", "isTold", "(I)Z"⟩, 80), (⟨"PlateVoteModel", "numeral", "(II)I"⟩, 80), (⟨"PlateVoteModel", "numeralAtHand", "(II)I"⟩, 80), (⟨"PlateVoteModel", "goOn", "()V"⟩, 80), (⟨"PlateVoteModel", "landLine", "()V"⟩, 80), (⟨"PlateVoteModel", "cellAtHand", "()I"⟩, 80), (⟨"PlateVoteModel", "water", "()I"⟩, 80), (⟨"PlateVoteModel", "isleLine", "(I)V"⟩, 80), (⟨"PlateVoteModel", "windLine", "()V"⟩, 80), (⟨"PlateVoteModel", "mouthLine", "(IZ)V"⟩, 80), (⟨"PlateVoteModel", "mouthNamed", "(I)I"⟩, 80), (⟨"PlateVoteModel", "isWord", "(I)Z"⟩, 80), (⟨"PlateVoteModel", "expression", "()V"⟩, 80)]
theorem lw_r5 : ∀ q ∈ lw_privs_5, lw_okq q := List.forall_mem_cons.mpr ⟨lw_p64, List.forall_mem_cons.mpr ⟨lw_p65, List.forall_mem_cons.mpr ⟨lw_p66, List.forall_mem_cons.mpr ⟨lw_p67, List.forall_mem_cons.mpr ⟨lw_p68, List.forall_mem_cons.mpr ⟨lw_p69, List.forall_mem_cons.mpr ⟨lw_p70, List.forall_mem_cons.mpr ⟨lw_p71, List.forall_mem_cons.mpr ⟨lw_p72, List.forall_mem_cons.mpr ⟨lw_p73, List.forall_mem_cons.mpr ⟨lw_p74, List.forall_mem_cons.mpr ⟨lw_p75, List.forall_mem_cons.mpr ⟨lw_p76, List.forall_mem_cons.mpr ⟨lw_p77, List.forall_mem_cons.mpr ⟨lw_p78, List.forall_mem_cons.mpr ⟨lw_p79, fun _ h => absurd h List.not_mem_nil⟩⟩⟩⟩⟩⟩⟩⟩⟩⟩⟩⟩⟩⟩⟩⟩
theorem lw_p80 : lw_okq (⟨"PlateVoteModel", "conjunction", "()V"⟩, 80) := ⟨⟨by decide +kernel, by decide +kernel⟩, List.mem_of_getElem? (i := 1373) (by decide +kernel), List.mem_of_getElem? (i := 1756) (by decide +kernel), List.mem_of_getElem? (i := 1757) (by decide +kernel)⟩
theorem lw_p81 : lw_okq (⟨"PlateVoteModel", "negation", "()V"⟩, 80) := ⟨⟨by decide +kernel, by decide +kernel⟩, List.mem_of_getElem? (i := 1373) (by decide +kernel), List.mem_of_getElem? (i := 1760) (by decide +kernel), List.mem_of_getElem? (i := 1761) (by decide +kernel)⟩
theorem lw_p82 : lw_okq (⟨"PlateVoteModel", "knot", "()V"⟩, 80) := ⟨⟨by decide +kernel, by decide +kernel⟩, List.mem_of_getElem? (i := 1373) (by decide +kernel), List.mem_of_getElem? (i := 1764) (by decide +kernel), List.mem_of_getElem? (i := 1765) (by decide +kernel)⟩
theorem lw_p83 : lw_okq (⟨"PlateVoteModel", "puts", "(II)V"⟩, 80) := ⟨⟨by decide +kernel, by decide +kernel⟩, List.mem_of_getElem? (i := 1373) (by decide +kernel), List.mem_of_getElem? (i := 1768) (by decide +kernel), List.mem_of_getElem? (i := 1769) (by decide +kernel)⟩
theorem lw_p84 : lw_okq (⟨"PlateVoteModel", "sum", "()V"⟩, 80) := ⟨⟨by decide +kernel, by decide +kernel⟩, List.mem_of_getElem? (i := 1373) (by decide +kernel), List.mem_of_getElem? (i := 1772) (by decide +kernel), List.mem_of_getElem? (i := 1773) (by decide +kernel)⟩
theorem lw_p85 : lw_okq (⟨"PlateVoteModel", "product", "()V"⟩, 80) := ⟨⟨by decide +kernel, by decide +kernel⟩, List.mem_of_getElem? (i := 1373) (by decide +kernel), List.mem_of_getElem? (i := 1776) (by decide +kernel), List.mem_of_getElem? (i := 1777) (by decide +kernel)⟩
theorem lw_p86 : lw_okq (⟨"PlateVoteModel", "primary", "()V"⟩, 80) := ⟨⟨by decide +kernel, by decide +kernel⟩, List.mem_of_getElem? (i := 1373) (by decide +kernel), List.mem_of_getElem? (i := 1780) (by decide +kernel), List.mem_of_getElem? (i := 1781) (by decide +kernel)⟩
theorem lw_p87 : lw_okq (⟨"PlateVoteModel", "isSign", "(I)Z"⟩, 80) := ⟨⟨by decide +kernel, by decide +kernel⟩, List.mem_of_getElem? (i := 1373) (by decide +kernel), List.mem_of_getElem? (i := 1784) (by decide +kernel), List.mem_of_getElem? (i := 1785) (by decide +kernel)⟩
theorem lw_p88 : lw_okq (⟨"PlateVoteModel", "isCell", "(I)Z"⟩, 80) := ⟨⟨by decide +kernel, by decide +kernel⟩, List.mem_of_getElem? (i := 1373) (by decide +kernel), List.mem_of_getElem? (i := 1803) (by decide +kernel), List.mem_of_getElem? (i := 1804) (by decide +kernel)⟩
theorem lw_p89 : lw_okq (⟨"PlateVoteModel", "slot", "(I)I"⟩, 80) := ⟨⟨by decide +kernel, by decide +kernel⟩, List.mem_of_getElem? (i := 1373) (by decide +kernel), List.mem_of_getElem? (i := 1815) (by decide +kernel), List.mem_of_getElem? (i := 1816) (by decide +kernel)⟩
theorem lw_p90 : lw_okq (⟨"PlateVoteModel", "plain", "()V"⟩, 80) := ⟨⟨by decide +kernel, by decide +kernel⟩, List.mem_of_getElem? (i := 1373) (by decide +kernel), List.mem_of_getElem? (i := 1819) (by decide +kernel), List.mem_of_getElem? (i := 1820) (by decide +kernel)⟩
theorem lw_p91 : lw_okq (⟨"PlateVoteModel", "isAboard", "(II)Z"⟩, 80) := ⟨⟨by decide +kernel, by decide +kernel⟩, List.mem_of_getElem? (i := 1373) (by decide +kernel), List.mem_of_getElem? (i := 1823) (by decide +kernel), List.mem_of_getElem? (i := 1824) (by decide +kernel)⟩
theorem lw_p92 : lw_okq (⟨"PlateVoteModel", "isThere", "(I)Z"⟩, 80) := ⟨⟨by decide +kernel, by decide +kernel⟩, List.mem_of_getElem? (i := 1373) (by decide +kernel), List.mem_of_getElem? (i := 1827) (by decide +kernel), List.mem_of_getElem? (i := 1828) (by decide +kernel)⟩
theorem lw_p93 : lw_okq (⟨"PlateVoteModel", "platesOf", "(II)I"⟩, 80) := ⟨⟨by decide +kernel, by decide +kernel⟩, List.mem_of_getElem? (i := 1373) (by decide +kernel), List.mem_of_getElem? (i := 1831) (by decide +kernel), List.mem_of_getElem? (i := 1832) (by decide +kernel)⟩
theorem lw_p94 : lw_okq (⟨"PlateVoteModel", "sits", "(I)V"⟩, 80) := ⟨⟨by decide +kernel, by decide +kernel⟩, List.mem_of_getElem? (i := 1373) (by decide +kernel), List.mem_of_getElem? (i := 1843) (by decide +kernel), List.mem_of_getElem? (i := 1844) (by decide +kernel)⟩
theorem lw_p95 : lw_okq (⟨"PlateVoteModel", "votesFor", "(IIII)I"⟩, 80) := ⟨⟨by decide +kernel, by decide +kernel⟩, List.mem_of_getElem? (i := 1373) (by decide +kernel), List.mem_of_getElem? (i := 1848) (by decide +kernel), List.mem_of_getElem? (i := 1849) (by decide +kernel)⟩
def lw_privs_6 : List (MethodName × Nat) := [(⟨"PlateVoteModel", "conjunction", "()V"⟩, 80), (⟨"PlateVoteModel", "negation", "()V"⟩, 80), (⟨"PlateVoteModel", "knot", "()V"⟩, 80), (⟨"PlateVoteModel", "puts", "(II)V"⟩, 80), (⟨"PlateVoteModel", "sum", "()V"⟩, 80), (⟨"PlateVoteModel", "product", "()V"⟩, 80), (⟨"PlateVoteModel", "primary", "()V"⟩, 80), (⟨"PlateVoteModel", "isSign", "(I)Z"⟩, 80), (⟨"PlateVoteModel", "isCell", "(I)Z"⟩, 80), (⟨"PlateVoteModel", "slot", "(I)I"⟩, 80), (⟨"PlateVoteModel", "plain", "()V"⟩, 80), (⟨"PlateVoteModel", "isAboard", "(II)Z"⟩, 80), (⟨"PlateVoteModel", "isThere", "(I)Z"⟩, 80), (⟨"PlateVoteModel", "platesOf", "(II)I"⟩, 80), (⟨"PlateVoteModel", "sits", "(I)V"⟩, 80), (⟨"PlateVoteModel", "votesFor", "(IIII)I"⟩, 80)]
theorem lw_r6 : ∀ q ∈ lw_privs_6, lw_okq q := List.forall_mem_cons.mpr ⟨lw_p80, List.forall_mem_cons.mpr ⟨lw_p81, List.forall_mem_cons.mpr ⟨lw_p82, List.forall_mem_cons.mpr ⟨lw_p83, List.forall_mem_cons.mpr ⟨lw_p84, List.forall_mem_cons.mpr ⟨lw_p85, List.forall_mem_cons.mpr ⟨lw_p86, List.forall_mem_cons.mpr ⟨lw_p87, List.forall_mem_cons.mpr ⟨lw_p88, List.forall_mem_cons.mpr ⟨lw_p89, List.forall_mem_cons.mpr ⟨lw_p90, List.forall_mem_cons.mpr ⟨lw_p91, List.forall_mem_cons.mpr ⟨lw_p92, List.forall_mem_cons.mpr ⟨lw_p93, List.forall_mem_cons.mpr ⟨lw_p94, List.forall_mem_cons.mpr ⟨lw_p95, fun _ h => absurd h List.not_mem_nil⟩⟩⟩⟩⟩⟩⟩⟩⟩⟩⟩⟩⟩⟩⟩⟩
theorem lw_p96 : lw_okq (⟨"PlateVoteModel", "says", "(IIIIII)Z"⟩, 80) := ⟨⟨by decide +kernel, by decide +kernel⟩, List.mem_of_getElem? (i := 1373) (by decide +kernel), List.mem_of_getElem? (i := 1852) (by decide +kernel), List.mem_of_getElem? (i := 1853) (by decide +kernel)⟩
theorem lw_p97 : lw_okq (⟨"PlateVoteModel", "windOf", "(I)I"⟩, 80) := ⟨⟨by decide +kernel, by decide +kernel⟩, List.mem_of_getElem? (i := 1373) (by decide +kernel), List.mem_of_getElem? (i := 1856) (by decide +kernel), List.mem_of_getElem? (i := 1857) (by decide +kernel)⟩
theorem lw_p98 : lw_okq (⟨"PlateVoteModel", "goes", "(I)Z"⟩, 80) := ⟨⟨by decide +kernel, by decide +kernel⟩, List.mem_of_getElem? (i := 1373) (by decide +kernel), List.mem_of_getElem? (i := 1863) (by decide +kernel), List.mem_of_getElem? (i := 1864) (by decide +kernel)⟩
theorem lw_p99 : lw_okq (⟨"PlateVoteModel", "works", "(I)Z"⟩, 80) := ⟨⟨by decide +kernel, by decide +kernel⟩, List.mem_of_getElem? (i := 1373) (by decide +kernel), List.mem_of_getElem? (i := 1867) (by decide +kernel), List.mem_of_getElem? (i := 1868) (by decide +kernel)⟩
theorem lw_p100 : lw_okq (⟨"PlateVoteModel", "nearest", "(II)I"⟩, 80) := ⟨⟨by decide +kernel, by decide +kernel⟩, List.mem_of_getElem? (i := 1373) (by decide +kernel), List.mem_of_getElem? (i := 1874) (by decide +kernel), List.mem_of_getElem? (i := 1875) (by decide +kernel)⟩
theorem lw_p101 : lw_okq (⟨"PlateVoteModel", "keepNow", "()V"⟩, 80) := ⟨⟨by decide +kernel, by decide +kernel⟩, List.mem_of_getElem? (i := 1373) (by decide +kernel), List.mem_of_getElem? (i := 1899) (by decide +kernel), List.mem_of_getElem? (i := 1900) (by decide +kernel)⟩
theorem lw_p102 : lw_okq (⟨"PlateVoteModel", "copies", "(II)V"⟩, 80) := ⟨⟨by decide +kernel, by decide +kernel⟩, List.mem_of_getElem? (i := 1373) (by decide +kernel), List.mem_of_getElem? (i := 1903) (by decide +kernel), List.mem_of_getElem? (i := 1904) (by decide +kernel)⟩
theorem lw_p103 : lw_okq (⟨"PlateVoteModel", "passes", "(I)V"⟩, 80) := ⟨⟨by decide +kernel, by decide +kernel⟩, List.mem_of_getElem? (i := 1373) (by decide +kernel), List.mem_of_getElem? (i := 1907) (by decide +kernel), List.mem_of_getElem? (i := 1908) (by decide +kernel)⟩
theorem lw_p104 : lw_okq (⟨"PlateVoteModel", "draw", "(II)I"⟩, 80) := ⟨⟨by decide +kernel, by decide +kernel⟩, List.mem_of_getElem? (i := 1373) (by decide +kernel), List.mem_of_getElem? (i := 1911) (by decide +kernel), List.mem_of_getElem? (i := 1912) (by decide +kernel)⟩
theorem lw_p105 : lw_okq (⟨"PlateVoteModel", "top", "()I"⟩, 80) := ⟨⟨by decide +kernel, by decide +kernel⟩, List.mem_of_getElem? (i := 1373) (by decide +kernel), List.mem_of_getElem? (i := 1917) (by decide +kernel), List.mem_of_getElem? (i := 1918) (by decide +kernel)⟩
theorem lw_p106 : lw_okq (⟨"PlateVoteModel", "plans", "(III)V"⟩, 80) := ⟨⟨by decide +kernel, by decide +kernel⟩, List.mem_of_getElem? (i := 1373) (by decide +kernel), List.mem_of_getElem? (i := 1929) (by decide +kernel), List.mem_of_getElem? (i := 1930) (by decide +kernel)⟩
theorem lw_p107 : lw_okq (⟨"PlateVoteModel", "puts", "(I)V"⟩, 80) := ⟨⟨by decide +kernel, by decide +kernel⟩, List.mem_of_getElem? (i := 1373) (by decide +kernel), List.mem_of_getElem? (i := 1933) (by decide +kernel), List.mem_of_getElem? (i := 1934) (by decide +kernel)⟩
theorem lw_p108 : lw_okq (⟨"PlateVoteModel", "takes", "(I)V"⟩, 80) := ⟨⟨by decide +kernel, by decide +kernel⟩, List.mem_of_getElem? (i := 1373) (by decide +kernel), List.mem_of_getElem? (i := 1937) (by decide +kernel), List.mem_of_getElem? (i := 1938) (by decide +kernel)⟩
theorem lw_p109 : lw_okq (⟨"PlateVoteModel", "added", "(III)I"⟩, 80) := ⟨⟨by decide +kernel, by decide +kernel⟩, List.mem_of_getElem? (i := 1373) (by decide +kernel), List.mem_of_getElem? (i := 1958) (by decide +kernel), List.mem_of_getElem? (i := 1959) (by decide +kernel)⟩
theorem lw_p110 : lw_okq (⟨"PlateVoteModel", "strikes", "()V"⟩, 80) := ⟨⟨by decide +kernel, by decide +kernel⟩, List.mem_of_getElem? (i := 1373) (by decide +kernel), List.mem_of_getElem? (i := 1978) (by decide +kernel), List.mem_of_getElem? (i := 1979) (by decide +kernel)⟩
theorem lw_p111 : lw_okq (⟨"PlateVoteModel", "knownMany", "()I"⟩, 80) := ⟨⟨by decide +kernel, by decide +kernel⟩, List.mem_of_getElem? (i := 1373) (by decide +kernel), List.mem_of_getElem? (i := 1982) (by decide +kernel), List.mem_of_getElem? (i := 1983) (by decide +kernel)⟩
def lw_privs_7 : List (MethodName × Nat) := [(⟨"PlateVoteModel", "says", "(IIIIII)Z"⟩, 80), (⟨"PlateVoteModel", "windOf", "(I)I"⟩, 80), (⟨"PlateVoteModel", "goes", "(I)Z"⟩, 80), (⟨"PlateVoteModel", "works", "(I)Z"⟩, 80), (⟨"PlateVoteModel", "nearest", "(II)I"⟩, 80), (⟨"PlateVoteModel", "keepNow", "()V"⟩, 80), (⟨"PlateVoteModel", "copies", "(II)V"⟩, 80), (⟨"PlateVoteModel", "passes", "(I)V"⟩, 80), (⟨"PlateVoteModel", "draw", "(II)I"⟩, 80), (⟨"PlateVoteModel", "top", "()I"⟩, 80), (⟨"PlateVoteModel", "plans", "(III)V"⟩, 80), (⟨"PlateVoteModel", "puts", "(I)V"⟩, 80), (⟨"PlateVoteModel", "takes", "(I)V"⟩, 80), (⟨"PlateVoteModel", "added", "(III)I"⟩, 80), (⟨"PlateVoteModel", "strikes", "()V"⟩, 80), (⟨"PlateVoteModel", "knownMany", "()I"⟩, 80)]
theorem lw_r7 : ∀ q ∈ lw_privs_7, lw_okq q := List.forall_mem_cons.mpr ⟨lw_p96, List.forall_mem_cons.mpr ⟨lw_p97, List.forall_mem_cons.mpr ⟨lw_p98, List.forall_mem_cons.mpr ⟨lw_p99, List.forall_mem_cons.mpr ⟨lw_p100, List.forall_mem_cons.mpr ⟨lw_p101, List.forall_mem_cons.mpr ⟨lw_p102, List.forall_mem_cons.mpr ⟨lw_p103, List.forall_mem_cons.mpr ⟨lw_p104, List.forall_mem_cons.mpr ⟨lw_p105, List.forall_mem_cons.mpr ⟨lw_p106, List.forall_mem_cons.mpr ⟨lw_p107, List.forall_mem_cons.mpr ⟨lw_p108, List.forall_mem_cons.mpr ⟨lw_p109, List.forall_mem_cons.mpr ⟨lw_p110, List.forall_mem_cons.mpr ⟨lw_p111, fun _ h => absurd h List.not_mem_nil⟩⟩⟩⟩⟩⟩⟩⟩⟩⟩⟩⟩⟩⟩⟩⟩
theorem lw_p112 : lw_okq (⟨"PlateVoteModel", "firstWrong", "(I)I"⟩, 80) := ⟨⟨by decide +kernel, by decide +kernel⟩, List.mem_of_getElem? (i := 1373) (by decide +kernel), List.mem_of_getElem? (i := 1986) (by decide +kernel), List.mem_of_getElem? (i := 1987) (by decide +kernel)⟩
theorem lw_p113 : lw_okq (⟨"PlateVoteModel", "isMay", "(I)Z"⟩, 80) := ⟨⟨by decide +kernel, by decide +kernel⟩, List.mem_of_getElem? (i := 1373) (by decide +kernel), List.mem_of_getElem? (i := 1994) (by decide +kernel), List.mem_of_getElem? (i := 1995) (by decide +kernel)⟩
theorem lw_p114 : lw_okq (⟨"PlateVoteModel", "copiesLog", "(II)V"⟩, 80) := ⟨⟨by decide +kernel, by decide +kernel⟩, List.mem_of_getElem? (i := 1373) (by decide +kernel), List.mem_of_getElem? (i := 2019) (by decide +kernel), List.mem_of_getElem? (i := 2020) (by decide +kernel)⟩
def lw_privs_8 : List (MethodName × Nat) := [(⟨"PlateVoteModel", "firstWrong", "(I)I"⟩, 80), (⟨"PlateVoteModel", "isMay", "(I)Z"⟩, 80), (⟨"PlateVoteModel", "copiesLog", "(II)V"⟩, 80)]
theorem lw_r8 : ∀ q ∈ lw_privs_8, lw_okq q := List.forall_mem_cons.mpr ⟨lw_p112, List.forall_mem_cons.mpr ⟨lw_p113, List.forall_mem_cons.mpr ⟨lw_p114, fun _ h => absurd h List.not_mem_nil⟩⟩⟩
def lw_privs : List (MethodName × Nat) := lw_privs_1 ++ (lw_privs_2 ++ (lw_privs_3 ++ (lw_privs_4 ++ (lw_privs_5 ++ (lw_privs_6 ++ (lw_privs_7 ++ (lw_privs_8)))))))
def lw_tbl : List Cond := k2_sels lw_privs ++ tables_1
theorem lw_privs_ok : ∀ q ∈ lw_privs, lw_okq q := by
  show ∀ q ∈ lw_privs_1 ++ (lw_privs_2 ++ (lw_privs_3 ++ (lw_privs_4 ++ (lw_privs_5 ++ (lw_privs_6 ++ (lw_privs_7 ++ (lw_privs_8))))))), lw_okq q
  exact List.forall_mem_append.mpr ⟨lw_r1, List.forall_mem_append.mpr ⟨lw_r2, List.forall_mem_append.mpr ⟨lw_r3, List.forall_mem_append.mpr ⟨lw_r4, List.forall_mem_append.mpr ⟨lw_r5, List.forall_mem_append.mpr ⟨lw_r6, List.forall_mem_append.mpr ⟨lw_r7, lw_r8⟩⟩⟩⟩⟩⟩⟩
def RX0 : String := "PlateVote$Chart"
def TX0 : u_T := fun k => match k with
  | 0 => ("PlateVote$Chart", "sea", "LPlateVote$Sea;", true)
  | 1 => ("PlateVote$Chart", "code", "LPlateVote$Code;", true)
  | 2 => ("PlateVote$Chart", "crew", "[LPlateVote$Mouth;", true)
  | 3 => ("PlateVote$Chart", "mouths", "I", false)
  | 4 => ("PlateVote$Chart", "mays", "I", false)
  | 5 => ("PlateVote$Chart", "wind", "[I", true)
  | 6 => ("PlateVote$Chart", "winds", "I", false)
  | 7 => ("PlateVote$Chart", "galeMeal", "[I", true)
  | 8 => ("PlateVote$Chart", "galeCourse", "[I", true)
  | 9 => ("PlateVote$Chart", "galePlates", "[I", true)
  | 10 => ("PlateVote$Chart", "gales", "I", false)
  | 11 => ("PlateVote$Chart", "stormOdds", "I", false)
  | 12 => ("PlateVote$Chart", "stormPlates", "I", false)
  | 13 => ("PlateVote$Chart", "soup", "I", false)
  | _ => ("PlateVote$Chart", "seed", "I", false)
def tyX0 : Nat → FieldType := fun k => match k with
  | 0 => .object "PlateVote$Sea"
  | 1 => .object "PlateVote$Code"
  | 2 => .array (.object "PlateVote$Mouth")
  | 3 => .int
  | 4 => .int
  | 5 => .array .int
  | 6 => .int
  | 7 => .array .int
  | 8 => .array .int
  | 9 => .array .int
  | 10 => .int
  | 11 => .int
  | 12 => .int
  | 13 => .int
  | _ => .int
abbrev wsX00 : List Cond := u_ws RX0 TX0 15
theorem nmX0 : ∀ a, a < 15 → ∀ b, b < 15 → a ≠ b → (TX0 a).2.1 ≠ (TX0 b).2.1 := by decide +kernel
theorem tyX0_ok : ∀ k, k < 15 → parseFieldDescriptor (TX0 k).2.2.1 = some (tyX0 k) := by decide +kernel
abbrev cX0_init : ByteArray := prog_2_method_1_code
def yX0_init : MethodName := ⟨RX0, "<init>", "()V"⟩
abbrev cX0_clear : ByteArray := prog_2_method_2_code
def yX0_clear : MethodName := ⟨RX0, "clear", "()V"⟩
abbrev cX0_close : ByteArray := prog_2_method_3_code
def yX0_close : MethodName := ⟨RX0, "close", "()V"⟩
abbrev cX0_size : ByteArray := prog_2_method_4_code
def yX0_size : MethodName := ⟨RX0, "size", "()I"⟩
abbrev cX0_isMouth : ByteArray := prog_2_method_5_code
def yX0_isMouth : MethodName := ⟨RX0, "isMouth", "(I)Z"⟩
abbrev cX0_mouthNamed : ByteArray := prog_2_method_6_code
def yX0_mouthNamed : MethodName := ⟨RX0, "mouthNamed", "(I)I"⟩
abbrev cX0_windAt : ByteArray := prog_2_method_7_code
def yX0_windAt : MethodName := ⟨RX0, "windAt", "(I)I"⟩
abbrev cX0_weight : ByteArray := prog_2_method_8_code
def yX0_weight : MethodName := ⟨RX0, "weight", "(I)I"⟩
def RX1 : String := "PlateVote$Code"
def TX1 : u_T := fun k => match k with
  | 0 => ("PlateVote$Code", "knot", "[I", true)
  | 1 => ("PlateVote$Code", "what", "[I", true)
  | 2 => ("PlateVote$Code", "size", "I", false)
  | 3 => ("PlateVote$Code", "names", "[J", true)
  | _ => ("PlateVote$Code", "stack", "[J", true)
def tyX1 : Nat → FieldType := fun k => match k with
  | 0 => .array .int
  | 1 => .array .int
  | 2 => .int
  | 3 => .array .long
  | _ => .array .long
abbrev wsX10 : List Cond := u_ws RX1 TX1 5
theorem nmX1 : ∀ a, a < 5 → ∀ b, b < 5 → a ≠ b → (TX1 a).2.1 ≠ (TX1 b).2.1 := by decide +kernel
theorem tyX1_ok : ∀ k, k < 5 → parseFieldDescriptor (TX1 k).2.2.1 = some (tyX1 k) := by decide +kernel
abbrev cX1_init : ByteArray := prog_3_method_1_code
def yX1_init : MethodName := ⟨RX1, "<init>", "()V"⟩
abbrev cX1_add : ByteArray := prog_3_method_2_code
def yX1_add : MethodName := ⟨RX1, "add", "(II)V"⟩
abbrev cX1_work : ByteArray := prog_3_method_3_code
def yX1_work : MethodName := ⟨RX1, "work", "(II)J"⟩
abbrev cX1_join : ByteArray := prog_3_method_4_code
def yX1_join : MethodName := ⟨RX1, "join", "(IJJ)J"⟩
def RX2 : String := "PlateVote$Galley"
def TX2 : u_T := fun k => match k with
  | 0 => ("PlateVote$Galley", "chart", "LPlateVote$Chart;", false)
  | 1 => ("PlateVote$Galley", "trial", "I", false)
  | 2 => ("PlateVote$Galley", "absent", "I", false)
  | 3 => ("PlateVote$Galley", "plates", "[I", true)
  | 4 => ("PlateVote$Galley", "wishes", "[I", true)
  | 5 => ("PlateVote$Galley", "votes", "[I", true)
  | 6 => ("PlateVote$Galley", "shares", "[I", true)
  | 7 => ("PlateVote$Galley", "eaten", "I", false)
  | 8 => ("PlateVote$Galley", "storm", "I", false)
  | 9 => ("PlateVote$Galley", "memo", "[I", true)
  | _ => ("PlateVote$Galley", "memoBase", "I", false)
def tyX2 : Nat → FieldType := fun k => match k with
  | 0 => .object "PlateVote$Chart"
  | 1 => .int
  | 2 => .int
  | 3 => .array .int
  | 4 => .array .int
  | 5 => .array .int
  | 6 => .array .int
  | 7 => .int
  | 8 => .int
  | 9 => .array .int
  | _ => .int
abbrev wsX20 : List Cond := u_ws RX2 TX2 11
theorem nmX2 : ∀ a, a < 11 → ∀ b, b < 11 → a ≠ b → (TX2 a).2.1 ≠ (TX2 b).2.1 := by decide +kernel
theorem tyX2_ok : ∀ k, k < 11 → parseFieldDescriptor (TX2 k).2.2.1 = some (tyX2 k) := by decide +kernel
abbrev cX2_init : ByteArray := prog_4_method_1_code
def yX2_init : MethodName := ⟨RX2, "<init>", "(LPlateVote$Chart;)V"⟩
abbrev cX2_isAboard : ByteArray := prog_4_method_2_code
def yX2_isAboard : MethodName := ⟨RX2, "isAboard", "(LPlateVote$Voyage;I)Z"⟩
abbrev cX2_aboard : ByteArray := prog_4_method_3_code
def yX2_aboard : MethodName := ⟨RX2, "aboard", "(LPlateVote$Voyage;)I"⟩
abbrev cX2_isFed : ByteArray := prog_4_method_4_code
def yX2_isFed : MethodName := ⟨RX2, "isFed", "(II)Z"⟩
abbrev cX2_portion : ByteArray := prog_4_method_5_code
def yX2_portion : MethodName := ⟨RX2, "portion", "(LPlateVote$Voyage;I)I"⟩
abbrev cX2_hungry : ByteArray := prog_4_method_6_code
def yX2_hungry : MethodName := ⟨RX2, "hungry", "(LPlateVote$Voyage;)I"⟩
abbrev cX2_serve : ByteArray := prog_4_method_7_code
def yX2_serve : MethodName := ⟨RX2, "serve", "(LPlateVote$Voyage;I)V"⟩
abbrev cX2_value : ByteArray := prog_4_method_8_code
def yX2_value : MethodName := ⟨RX2, "value", "(LPlateVote$Voyage;IIII)J"⟩
abbrev cX2_openPage : ByteArray := prog_4_method_9_code
def yX2_openPage : MethodName := ⟨RX2, "openPage", "(I)V"⟩
abbrev cX2_usePage : ByteArray := prog_4_method_10_code
def yX2_usePage : MethodName := ⟨RX2, "usePage", "(I)V"⟩
abbrev cX2_wishOf : ByteArray := prog_4_method_11_code
def yX2_wishOf : MethodName := ⟨RX2, "wishOf", "(LPlateVote$Voyage;II)I"⟩
abbrev cX2_poll : ByteArray := prog_4_method_12_code
def yX2_poll : MethodName := ⟨RX2, "poll", "(LPlateVote$Voyage;)V"⟩
abbrev cX2_give : ByteArray := prog_4_method_13_code
def yX2_give : MethodName := ⟨RX2, "give", "(II)V"⟩
abbrev cX2_bribe : ByteArray := prog_4_method_14_code
def yX2_bribe : MethodName := ⟨RX2, "bribe", "(LPlateVote$Voyage;I)I"⟩
abbrev cX2_blow : ByteArray := prog_4_method_15_code
def yX2_blow : MethodName := ⟨RX2, "blow", "(LPlateVote$Voyage;)V"⟩
abbrev cX2_winner : ByteArray := prog_4_method_16_code
def yX2_winner : MethodName := ⟨RX2, "winner", "(LPlateVote$Voyage;)I"⟩
abbrev cX2_comesTo : ByteArray := prog_4_method_17_code
def yX2_comesTo : MethodName := ⟨RX2, "comesTo", "(LPlateVote$Voyage;I)I"⟩
abbrev cX2_sail : ByteArray := prog_4_method_18_code
def yX2_sail : MethodName := ⟨RX2, "sail", "(LPlateVote$Voyage;I)V"⟩
abbrev cX2_hold : ByteArray := prog_4_method_19_code
def yX2_hold : MethodName := ⟨RX2, "hold", "(LPlateVote$Voyage;I)I"⟩
abbrev cX2_ordersDecidedBy : ByteArray := prog_4_method_20_code
def yX2_ordersDecidedBy : MethodName := ⟨RX2, "ordersDecidedBy", "(LPlateVote$Voyage;I)I"⟩
def RX3 : String := "PlateVote$Log"
def TX3 : u_T := fun k => match k with
  | 0 => ("PlateVote$Log", "course", "[I", true)
  | 1 => ("PlateVote$Log", "plates", "[I", true)
  | 2 => ("PlateVote$Log", "cell", "[I", true)
  | 3 => ("PlateVote$Log", "storm", "[I", true)
  | _ => ("PlateVote$Log", "fed", "[I", true)
def tyX3 : Nat → FieldType := fun k => match k with
  | 0 => .array .int
  | 1 => .array .int
  | 2 => .array .int
  | 3 => .array .int
  | _ => .array .int
abbrev wsX30 : List Cond := u_ws RX3 TX3 5
theorem nmX3 : ∀ a, a < 5 → ∀ b, b < 5 → a ≠ b → (TX3 a).2.1 ≠ (TX3 b).2.1 := by decide +kernel
theorem tyX3_ok : ∀ k, k < 5 → parseFieldDescriptor (TX3 k).2.2.1 = some (tyX3 k) := by decide +kernel
abbrev cX3_init : ByteArray := prog_5_method_1_code
def yX3_init : MethodName := ⟨RX3, "<init>", "()V"⟩
abbrev cX3_copyFrom : ByteArray := prog_5_method_2_code
def yX3_copyFrom : MethodName := ⟨RX3, "copyFrom", "(LPlateVote$Log;)V"⟩
def RX4 : String := "PlateVote$Mouth"
def TX4 : u_T := fun k => match k with
  | 0 => ("PlateVote$Mouth", "name", "I", false)
  | 1 => ("PlateVote$Mouth", "plates", "I", false)
  | 2 => ("PlateVote$Mouth", "odds", "I", false)
  | 3 => ("PlateVote$Mouth", "from", "I", false)
  | 4 => ("PlateVote$Mouth", "till", "I", false)
  | 5 => ("PlateVote$Mouth", "sickFrom", "I", false)
  | 6 => ("PlateVote$Mouth", "sickTo", "I", false)
  | 7 => ("PlateVote$Mouth", "loses", "I", false)
  | 8 => ("PlateVote$Mouth", "codeFrom", "I", false)
  | _ => ("PlateVote$Mouth", "codeTo", "I", false)
def tyX4 : Nat → FieldType := fun k => match k with
  | 0 => .int
  | 1 => .int
  | 2 => .int
  | 3 => .int
  | 4 => .int
  | 5 => .int
  | 6 => .int
  | 7 => .int
  | 8 => .int
  | _ => .int
abbrev wsX40 : List Cond := u_ws RX4 TX4 10
theorem nmX4 : ∀ a, a < 10 → ∀ b, b < 10 → a ≠ b → (TX4 a).2.1 ≠ (TX4 b).2.1 := by decide +kernel
theorem tyX4_ok : ∀ k, k < 10 → parseFieldDescriptor (TX4 k).2.2.1 = some (tyX4 k) := by decide +kernel
abbrev cX4_init : ByteArray := prog_6_method_1_code
def yX4_init : MethodName := ⟨RX4, "<init>", "()V"⟩
abbrev cX4_begin : ByteArray := prog_6_method_2_code
def yX4_begin : MethodName := ⟨RX4, "begin", "(I)V"⟩
def RX5 : String := "PlateVote$Notes"
def TX5 : u_T := fun k => match k with
  | 0 => ("PlateVote$Notes", "kind", "[I", true)
  | 1 => ("PlateVote$Notes", "meal", "[I", true)
  | 2 => ("PlateVote$Notes", "value", "[I", true)
  | 3 => ("PlateVote$Notes", "struck", "[Z", true)
  | 4 => ("PlateVote$Notes", "size", "I", false)
  | _ => ("PlateVote$Notes", "limit", "I", false)
def tyX5 : Nat → FieldType := fun k => match k with
  | 0 => .array .int
  | 1 => .array .int
  | 2 => .array .int
  | 3 => .array .boolean
  | 4 => .int
  | _ => .int
abbrev wsX50 : List Cond := u_ws RX5 TX5 6
theorem nmX5 : ∀ a, a < 6 → ∀ b, b < 6 → a ≠ b → (TX5 a).2.1 ≠ (TX5 b).2.1 := by decide +kernel
theorem tyX5_ok : ∀ k, k < 6 → parseFieldDescriptor (TX5 k).2.2.1 = some (tyX5 k) := by decide +kernel
abbrev cX5_init : ByteArray := prog_7_method_1_code
def yX5_init : MethodName := ⟨RX5, "<init>", "()V"⟩
abbrev cX5_clear : ByteArray := prog_7_method_2_code
def yX5_clear : MethodName := ⟨RX5, "clear", "()V"⟩
abbrev cX5_inForce : ByteArray := prog_7_method_3_code
def yX5_inForce : MethodName := ⟨RX5, "inForce", "()I"⟩
abbrev cX5_add : ByteArray := prog_7_method_4_code
def yX5_add : MethodName := ⟨RX5, "add", "(III)I"⟩
abbrev cX5_sift : ByteArray := prog_7_method_5_code
def yX5_sift : MethodName := ⟨RX5, "sift", "()V"⟩
abbrev cX5_counts : ByteArray := prog_7_method_6_code
def yX5_counts : MethodName := ⟨RX5, "counts", "(I)Z"⟩
abbrev cX5_latestMeal : ByteArray := prog_7_method_7_code
def yX5_latestMeal : MethodName := ⟨RX5, "latestMeal", "()I"⟩
abbrev cX5_firstFrom : ByteArray := prog_7_method_8_code
def yX5_firstFrom : MethodName := ⟨RX5, "firstFrom", "(I)I"⟩
abbrev cX5_firstFalse : ByteArray := prog_7_method_9_code
def yX5_firstFalse : MethodName := ⟨RX5, "firstFalse", "(III)I"⟩
def RX6 : String := "PlateVote$Planner"
def TX6 : u_T := fun k => match k with
  | 0 => ("PlateVote$Planner", "galley", "LPlateVote$Galley;", true)
  | 1 => ("PlateVote$Planner", "stages", "[LPlateVote$Voyage;", true)
  | 2 => ("PlateVote$Planner", "fed", "[I", true)
  | 3 => ("PlateVote$Planner", "best", "[I", true)
  | 4 => ("PlateVote$Planner", "bestSoup", "I", false)
  | _ => ("PlateVote$Planner", "bestMeals", "I", false)
def tyX6 : Nat → FieldType := fun k => match k with
  | 0 => .object "PlateVote$Galley"
  | 1 => .array (.object "PlateVote$Voyage")
  | 2 => .array .int
  | 3 => .array .int
  | 4 => .int
  | _ => .int
abbrev wsX60 : List Cond := u_ws RX6 TX6 6
theorem nmX6 : ∀ a, a < 6 → ∀ b, b < 6 → a ≠ b → (TX6 a).2.1 ≠ (TX6 b).2.1 := by decide +kernel
theorem tyX6_ok : ∀ k, k < 6 → parseFieldDescriptor (TX6 k).2.2.1 = some (tyX6 k) := by decide +kernel
abbrev cX6_init : ByteArray := prog_8_method_1_code
def yX6_init : MethodName := ⟨RX6, "<init>", "(LPlateVote$Galley;)V"⟩
abbrev cX6_find : ByteArray := prog_8_method_2_code
def yX6_find : MethodName := ⟨RX6, "find", "(LPlateVote$Voyage;I)V"⟩
abbrev cX6_search : ByteArray := prog_8_method_3_code
def yX6_search : MethodName := ⟨RX6, "search", "(III)V"⟩
abbrev cX6_isTooFar : ByteArray := prog_8_method_4_code
def yX6_isTooFar : MethodName := ⟨RX6, "isTooFar", "(LPlateVote$Voyage;I)Z"⟩
abbrev cX6_isWorse : ByteArray := prog_8_method_5_code
def yX6_isWorse : MethodName := ⟨RX6, "isWorse", "(II)Z"⟩
abbrev cX6_take : ByteArray := prog_8_method_6_code
def yX6_take : MethodName := ⟨RX6, "take", "(II)V"⟩
def RX7 : String := "PlateVote$Reader"
def TX7 : u_T := fun k => match k with
  | 0 => ("PlateVote$Reader", "scanner", "LPlateVote$Scanner;", true)
  | 1 => ("PlateVote$Reader", "chart", "LPlateVote$Chart;", false)
  | 2 => ("PlateVote$Reader", "lines", "I", false)
  | 3 => ("PlateVote$Reader", "faultKind", "I", false)
  | 4 => ("PlateVote$Reader", "faultPlace", "I", false)
  | 5 => ("PlateVote$Reader", "at", "I", false)
  | 6 => ("PlateVote$Reader", "kind", "I", false)
  | 7 => ("PlateVote$Reader", "place", "I", false)
  | 8 => ("PlateVote$Reader", "value", "I", false)
  | 9 => ("PlateVote$Reader", "key", "I", false)
  | 10 => ("PlateVote$Reader", "sign", "I", false)
  | 11 => ("PlateVote$Reader", "got", "I", false)
  | 12 => ("PlateVote$Reader", "gotPlace", "I", false)
  | 13 => ("PlateVote$Reader", "told", "I", false)
  | 14 => ("PlateVote$Reader", "pending", "[I", true)
  | 15 => ("PlateVote$Reader", "waiting", "I", false)
  | 16 => ("PlateVote$Reader", "open", "I", false)
  | 17 => ("PlateVote$Reader", "knots", "I", false)
  | _ => ("PlateVote$Reader", "wantsPart", "Z", false)
def tyX7 : Nat → FieldType := fun k => match k with
  | 0 => .object "PlateVote$Scanner"
  | 1 => .object "PlateVote$Chart"
  | 2 => .int
  | 3 => .int
  | 4 => .int
  | 5 => .int
  | 6 => .int
  | 7 => .int
  | 8 => .int
  | 9 => .int
  | 10 => .int
  | 11 => .int
  | 12 => .int
  | 13 => .int
  | 14 => .array .int
  | 15 => .int
  | 16 => .int
  | 17 => .int
  | _ => .boolean
abbrev wsX70 : List Cond := u_ws RX7 TX7 19
theorem nmX7 : ∀ a, a < 19 → ∀ b, b < 19 → a ≠ b → (TX7 a).2.1 ≠ (TX7 b).2.1 := by decide +kernel
theorem tyX7_ok : ∀ k, k < 19 → parseFieldDescriptor (TX7 k).2.2.1 = some (tyX7 k) := by decide +kernel
abbrev cX7_init : ByteArray := prog_9_method_1_code
def yX7_init : MethodName := ⟨RX7, "<init>", "([BLPlateVote$Chart;)V"⟩
abbrev cX7_read : ByteArray := prog_9_method_2_code
def yX7_read : MethodName := ⟨RX7, "read", "(ILPlateVote$Chart;)Z"⟩
abbrev cX7_advance : ByteArray := prog_9_method_3_code
def yX7_advance : MethodName := ⟨RX7, "advance", "()V"⟩
abbrev cX7_wrong : ByteArray := prog_9_method_4_code
def yX7_wrong : MethodName := ⟨RX7, "wrong", "(II)Z"⟩
abbrev cX7_readLine : ByteArray := prog_9_method_5_code
def yX7_readLine : MethodName := ⟨RX7, "readLine", "()Z"⟩
abbrev cX7_endLine : ByteArray := prog_9_method_6_code
def yX7_endLine : MethodName := ⟨RX7, "endLine", "()Z"⟩
abbrev cX7_isTold : ByteArray := prog_9_method_7_code
def yX7_isTold : MethodName := ⟨RX7, "isTold", "(I)Z"⟩
abbrev cX7_tellOnce : ByteArray := prog_9_method_8_code
def yX7_tellOnce : MethodName := ⟨RX7, "tellOnce", "(II)Z"⟩
abbrev cX7_readNumber : ByteArray := prog_9_method_9_code
def yX7_readNumber : MethodName := ⟨RX7, "readNumber", "(II)Z"⟩
abbrev cX7_readCell : ByteArray := prog_9_method_10_code
def yX7_readCell : MethodName := ⟨RX7, "readCell", "()Z"⟩
abbrev cX7_readCellOfWater : ByteArray := prog_9_method_11_code
def yX7_readCellOfWater : MethodName := ⟨RX7, "readCellOfWater", "()Z"⟩
abbrev cX7_readSea : ByteArray := prog_9_method_12_code
def yX7_readSea : MethodName := ⟨RX7, "readSea", "(I)Z"⟩
abbrev cX7_readLand : ByteArray := prog_9_method_13_code
def yX7_readLand : MethodName := ⟨RX7, "readLand", "(I)Z"⟩
abbrev cX7_readShip : ByteArray := prog_9_method_14_code
def yX7_readShip : MethodName := ⟨RX7, "readShip", "(II)Z"⟩
abbrev cX7_readIsle : ByteArray := prog_9_method_15_code
def yX7_readIsle : MethodName := ⟨RX7, "readIsle", "(I)Z"⟩
abbrev cX7_readWind : ByteArray := prog_9_method_16_code
def yX7_readWind : MethodName := ⟨RX7, "readWind", "(I)Z"⟩
abbrev cX7_readGale : ByteArray := prog_9_method_17_code
def yX7_readGale : MethodName := ⟨RX7, "readGale", "(I)Z"⟩
abbrev cX7_readStorm : ByteArray := prog_9_method_18_code
def yX7_readStorm : MethodName := ⟨RX7, "readStorm", "(I)Z"⟩
abbrev cX7_readStore : ByteArray := prog_9_method_19_code
def yX7_readStore : MethodName := ⟨RX7, "readStore", "(II)Z"⟩
abbrev cX7_readMouth : ByteArray := prog_9_method_20_code
def yX7_readMouth : MethodName := ⟨RX7, "readMouth", "(II)Z"⟩
abbrev cX7_isCrewName : ByteArray := prog_9_method_21_code
def yX7_isCrewName : MethodName := ⟨RX7, "isCrewName", "(I)Z"⟩
abbrev cX7_readOdds : ByteArray := prog_9_method_22_code
def yX7_readOdds : MethodName := ⟨RX7, "readOdds", "(LPlateVote$Mouth;)Z"⟩
abbrev cX7_readRest : ByteArray := prog_9_method_23_code
def yX7_readRest : MethodName := ⟨RX7, "readRest", "(LPlateVote$Mouth;)Z"⟩
abbrev cX7_readStay : ByteArray := prog_9_method_24_code
def yX7_readStay : MethodName := ⟨RX7, "readStay", "(LPlateVote$Mouth;I)Z"⟩
abbrev cX7_readSick : ByteArray := prog_9_method_25_code
def yX7_readSick : MethodName := ⟨RX7, "readSick", "(LPlateVote$Mouth;)Z"⟩
abbrev cX7_readLoses : ByteArray := prog_9_method_26_code
def yX7_readLoses : MethodName := ⟨RX7, "readLoses", "(LPlateVote$Mouth;)Z"⟩
abbrev cX7_readExpression : ByteArray := prog_9_method_27_code
def yX7_readExpression : MethodName := ⟨RX7, "readExpression", "(LPlateVote$Mouth;)Z"⟩
abbrev cX7_goesOn : ByteArray := prog_9_method_28_code
def yX7_goesOn : MethodName := ⟨RX7, "goesOn", "()Z"⟩
abbrev cX7_takePart : ByteArray := prog_9_method_29_code
def yX7_takePart : MethodName := ⟨RX7, "takePart", "()Z"⟩
abbrev cX7_addLeaf : ByteArray := prog_9_method_30_code
def yX7_addLeaf : MethodName := ⟨RX7, "addLeaf", "()Z"⟩
abbrev cX7_takeSign : ByteArray := prog_9_method_31_code
def yX7_takeSign : MethodName := ⟨RX7, "takeSign", "()Z"⟩
abbrev cX7_countKnot : ByteArray := prog_9_method_32_code
def yX7_countKnot : MethodName := ⟨RX7, "countKnot", "()Z"⟩
abbrev cX7_rankOf : ByteArray := prog_9_method_33_code
def yX7_rankOf : MethodName := ⟨RX7, "rankOf", "(I)I"⟩
abbrev cX7_rankOnTop : ByteArray := prog_9_method_34_code
def yX7_rankOnTop : MethodName := ⟨RX7, "rankOnTop", "()I"⟩
abbrev cX7_defer : ByteArray := prog_9_method_35_code
def yX7_defer : MethodName := ⟨RX7, "defer", "(I)Z"⟩
abbrev cX7_release : ByteArray := prog_9_method_36_code
def yX7_release : MethodName := ⟨RX7, "release", "(I)V"⟩
def RX8 : String := "PlateVote$Scanner"
def TX8 : u_T := fun k => match k with
  | 0 => ("PlateVote$Scanner", "keys", "[I", true)
  | 1 => ("PlateVote$Scanner", "text", "[B", true)
  | 2 => ("PlateVote$Scanner", "length", "I", false)
  | 3 => ("PlateVote$Scanner", "next", "I", false)
  | 4 => ("PlateVote$Scanner", "kind", "I", false)
  | 5 => ("PlateVote$Scanner", "value", "I", false)
  | 6 => ("PlateVote$Scanner", "kinds", "[I", true)
  | 7 => ("PlateVote$Scanner", "values", "[I", true)
  | 8 => ("PlateVote$Scanner", "places", "[I", true)
  | _ => ("PlateVote$Scanner", "size", "I", false)
def tyX8 : Nat → FieldType := fun k => match k with
  | 0 => .array .int
  | 1 => .array .byte
  | 2 => .int
  | 3 => .int
  | 4 => .int
  | 5 => .int
  | 6 => .array .int
  | 7 => .array .int
  | 8 => .array .int
  | _ => .int
abbrev wsX80 : List Cond := u_ws RX8 TX8 10
theorem nmX8 : ∀ a, a < 10 → ∀ b, b < 10 → a ≠ b → (TX8 a).2.1 ≠ (TX8 b).2.1 := by decide +kernel
theorem tyX8_ok : ∀ k, k < 10 → parseFieldDescriptor (TX8 k).2.2.1 = some (tyX8 k) := by decide +kernel
abbrev cX8_init : ByteArray := prog_10_method_1_code
def yX8_init : MethodName := ⟨RX8, "<init>", "([B)V"⟩
abbrev cX8_scan : ByteArray := prog_10_method_2_code
def yX8_scan : MethodName := ⟨RX8, "scan", "(I)V"⟩
abbrev cX8_isLetter : ByteArray := prog_10_method_3_code
def yX8_isLetter : MethodName := ⟨RX8, "isLetter", "(I)Z"⟩
abbrev cX8_isDigit : ByteArray := prog_10_method_4_code
def yX8_isDigit : MethodName := ⟨RX8, "isDigit", "(I)Z"⟩
abbrev cX8_scanWord : ByteArray := prog_10_method_5_code
def yX8_scanWord : MethodName := ⟨RX8, "scanWord", "()V"⟩
abbrev cX8_scanNumber : ByteArray := prog_10_method_6_code
def yX8_scanNumber : MethodName := ⟨RX8, "scanNumber", "()V"⟩
abbrev cX8_scanSign : ByteArray := prog_10_method_7_code
def yX8_scanSign : MethodName := ⟨RX8, "scanSign", "(I)V"⟩
abbrev cX8_follows : ByteArray := prog_10_method_8_code
def yX8_follows : MethodName := ⟨RX8, "follows", "(I)Z"⟩
def RX9 : String := "PlateVote$Sea"
def TX9 : u_T := fun k => match k with
  | 0 => ("PlateVote$Sea", "wide", "I", false)
  | 1 => ("PlateVote$Sea", "high", "I", false)
  | 2 => ("PlateVote$Sea", "land", "J", false)
  | 3 => ("PlateVote$Sea", "lands", "I", false)
  | 4 => ("PlateVote$Sea", "start", "I", false)
  | 5 => ("PlateVote$Sea", "bahia", "I", false)
  | 6 => ("PlateVote$Sea", "isles", "I", false)
  | 7 => ("PlateVote$Sea", "isleName", "[I", true)
  | 8 => ("PlateVote$Sea", "isleCell", "[I", true)
  | 9 => ("PlateVote$Sea", "isleReach", "[I", true)
  | 10 => ("PlateVote$Sea", "isleGoats", "[I", true)
  | 11 => ("PlateVote$Sea", "rows", "[I", true)
  | _ => ("PlateVote$Sea", "queue", "[I", true)
def tyX9 : Nat → FieldType := fun k => match k with
  | 0 => .int
  | 1 => .int
  | 2 => .long
  | 3 => .int
  | 4 => .int
  | 5 => .int
  | 6 => .int
  | 7 => .array .int
  | 8 => .array .int
  | 9 => .array .int
  | 10 => .array .int
  | 11 => .array .int
  | _ => .array .int
abbrev wsX90 : List Cond := u_ws RX9 TX9 13
theorem nmX9 : ∀ a, a < 13 → ∀ b, b < 13 → a ≠ b → (TX9 a).2.1 ≠ (TX9 b).2.1 := by decide +kernel
theorem tyX9_ok : ∀ k, k < 13 → parseFieldDescriptor (TX9 k).2.2.1 = some (tyX9 k) := by decide +kernel
abbrev cX9_init : ByteArray := prog_11_method_1_code
def yX9_init : MethodName := ⟨RX9, "<init>", "()V"⟩
abbrev cX9_clear : ByteArray := prog_11_method_2_code
def yX9_clear : MethodName := ⟨RX9, "clear", "()V"⟩
abbrev cX9_isCell : ByteArray := prog_11_method_3_code
def yX9_isCell : MethodName := ⟨RX9, "isCell", "(I)Z"⟩
abbrev cX9_isLand : ByteArray := prog_11_method_4_code
def yX9_isLand : MethodName := ⟨RX9, "isLand", "(I)Z"⟩
abbrev cX9_isWater : ByteArray := prog_11_method_5_code
def yX9_isWater : MethodName := ⟨RX9, "isWater", "(I)Z"⟩
abbrev cX9_isleNamed : ByteArray := prog_11_method_6_code
def yX9_isleNamed : MethodName := ⟨RX9, "isleNamed", "(I)I"⟩
abbrev cX9_isIsle : ByteArray := prog_11_method_7_code
def yX9_isIsle : MethodName := ⟨RX9, "isIsle", "(I)Z"⟩
abbrev cX9_step : ByteArray := prog_11_method_8_code
def yX9_step : MethodName := ⟨RX9, "step", "(II)I"⟩
abbrev cX9_measure : ByteArray := prog_11_method_9_code
def yX9_measure : MethodName := ⟨RX9, "measure", "()V"⟩
abbrev cX9_spread : ByteArray := prog_11_method_10_code
def yX9_spread : MethodName := ⟨RX9, "spread", "(II)V"⟩
abbrev cX9_fromBahia : ByteArray := prog_11_method_11_code
def yX9_fromBahia : MethodName := ⟨RX9, "fromBahia", "(I)I"⟩
abbrev cX9_fromIsle : ByteArray := prog_11_method_12_code
def yX9_fromIsle : MethodName := ⟨RX9, "fromIsle", "(II)I"⟩
abbrev cX9_between : ByteArray := prog_11_method_13_code
def yX9_between : MethodName := ⟨RX9, "between", "(II)I"⟩
def RX10 : String := "PlateVote$Voyage"
def TX10 : u_T := fun k => match k with
  | 0 => ("PlateVote$Voyage", "meal", "I", false)
  | 1 => ("PlateVote$Voyage", "cell", "I", false)
  | 2 => ("PlateVote$Voyage", "soup", "I", false)
  | 3 => ("PlateVote$Voyage", "random", "J", false)
  | 4 => ("PlateVote$Voyage", "fed", "I", false)
  | 5 => ("PlateVote$Voyage", "may", "I", false)
  | 6 => ("PlateVote$Voyage", "leapt", "I", false)
  | 7 => ("PlateVote$Voyage", "arrived", "I", false)
  | _ => ("PlateVote$Voyage", "lost", "[I", true)
def tyX10 : Nat → FieldType := fun k => match k with
  | 0 => .int
  | 1 => .int
  | 2 => .int
  | 3 => .long
  | 4 => .int
  | 5 => .int
  | 6 => .int
  | 7 => .int
  | _ => .array .int
abbrev wsX100 : List Cond := u_ws RX10 TX10 9
theorem nmX10 : ∀ a, a < 9 → ∀ b, b < 9 → a ≠ b → (TX10 a).2.1 ≠ (TX10 b).2.1 := by decide +kernel
theorem tyX10_ok : ∀ k, k < 9 → parseFieldDescriptor (TX10 k).2.2.1 = some (tyX10 k) := by decide +kernel
abbrev cX10_init : ByteArray := prog_12_method_1_code
def yX10_init : MethodName := ⟨RX10, "<init>", "()V"⟩
abbrev cX10_begin : ByteArray := prog_12_method_2_code
def yX10_begin : MethodName := ⟨RX10, "begin", "(LPlateVote$Chart;)V"⟩
abbrev cX10_copyFrom : ByteArray := prog_12_method_3_code
def yX10_copyFrom : MethodName := ⟨RX10, "copyFrom", "(LPlateVote$Voyage;)V"⟩
abbrev cX10_draw : ByteArray := prog_12_method_4_code
def yX10_draw : MethodName := ⟨RX10, "draw", "()I"⟩
def RX11 : String := "PlateVote"
def TX11 : u_T := fun k => match k with
  | 0 => ("PlateVote", "tape", "[B", true)
  | 1 => ("PlateVote", "taped", "I", false)
  | 2 => ("PlateVote", "chart", "LPlateVote$Chart;", false)
  | 3 => ("PlateVote", "spare", "LPlateVote$Chart;", false)
  | 4 => ("PlateVote", "reader", "LPlateVote$Reader;", true)
  | 5 => ("PlateVote", "galley", "LPlateVote$Galley;", true)
  | 6 => ("PlateVote", "planner", "LPlateVote$Planner;", true)
  | 7 => ("PlateVote", "now", "LPlateVote$Voyage;", true)
  | 8 => ("PlateVote", "gone", "LPlateVote$Log;", true)
  | 9 => ("PlateVote", "past", "[LPlateVote$Voyage;", true)
  | 10 => ("PlateVote", "undoable", "I", false)
  | 11 => ("PlateVote", "image", "LPlateVote$Voyage;", true)
  | 12 => ("PlateVote", "imageLog", "LPlateVote$Log;", true)
  | 13 => ("PlateVote", "imaged", "Z", false)
  | 14 => ("PlateVote", "notes", "LPlateVote$Notes;", true)
  | 15 => ("PlateVote", "trip", "LPlateVote$Voyage;", true)
  | _ => ("PlateVote", "fitted", "I", false)
def tyX11 : Nat → FieldType := fun k => match k with
  | 0 => .array .byte
  | 1 => .int
  | 2 => .object "PlateVote$Chart"
  | 3 => .object "PlateVote$Chart"
  | 4 => .object "PlateVote$Reader"
  | 5 => .object "PlateVote$Galley"
  | 6 => .object "PlateVote$Planner"
  | 7 => .object "PlateVote$Voyage"
  | 8 => .object "PlateVote$Log"
  | 9 => .array (.object "PlateVote$Voyage")
  | 10 => .int
  | 11 => .object "PlateVote$Voyage"
  | 12 => .object "PlateVote$Log"
  | 13 => .boolean
  | 14 => .object "PlateVote$Notes"
  | 15 => .object "PlateVote$Voyage"
  | _ => .int
abbrev wsX110 : List Cond := u_ws RX11 TX11 17
theorem nmX11 : ∀ a, a < 17 → ∀ b, b < 17 → a ≠ b → (TX11 a).2.1 ≠ (TX11 b).2.1 := by decide +kernel
theorem tyX11_ok : ∀ k, k < 17 → parseFieldDescriptor (TX11 k).2.2.1 = some (tyX11 k) := by decide +kernel
abbrev cX11_init : ByteArray := prog_1_method_1_code
def yX11_init : MethodName := ⟨RX11, "<init>", "()V"⟩
abbrev cX11_feed : ByteArray := prog_1_method_2_code
def yX11_feed : MethodName := ⟨RX11, "feed", "(IIIII)I"⟩
abbrev cX11_tapeNumber : ByteArray := prog_1_method_3_code
def yX11_tapeNumber : MethodName := ⟨RX11, "tapeNumber", "(I)V"⟩
abbrev cX11_text : ByteArray := prog_1_method_4_code
def yX11_text : MethodName := ⟨RX11, "text", "(I)I"⟩
abbrev cX11_fault : ByteArray := prog_1_method_5_code
def yX11_fault : MethodName := ⟨RX11, "fault", "(I)I"⟩
abbrev cX11_named : ByteArray := prog_1_method_6_code
def yX11_named : MethodName := ⟨RX11, "named", "(II)I"⟩
abbrev cX11_look : ByteArray := prog_1_method_7_code
def yX11_look : MethodName := ⟨RX11, "look", "(II)I"⟩
abbrev cX11_ship : ByteArray := prog_1_method_8_code
def yX11_ship : MethodName := ⟨RX11, "ship", "(I)I"⟩
abbrev cX11_far : ByteArray := prog_1_method_9_code
def yX11_far : MethodName := ⟨RX11, "far", "(II)I"⟩
abbrev cX11_land : ByteArray := prog_1_method_10_code
def yX11_land : MethodName := ⟨RX11, "land", "(I)I"⟩
abbrev cX11_mealIsNext : ByteArray := prog_1_method_11_code
def yX11_mealIsNext : MethodName := ⟨RX11, "mealIsNext", "()Z"⟩
abbrev cX11_wish : ByteArray := prog_1_method_12_code
def yX11_wish : MethodName := ⟨RX11, "wish", "(I)I"⟩
abbrev cX11_law : ByteArray := prog_1_method_13_code
def yX11_law : MethodName := ⟨RX11, "law", "(III)J"⟩
abbrev cX11_votes : ByteArray := prog_1_method_14_code
def yX11_votes : MethodName := ⟨RX11, "votes", "(I)I"⟩
abbrev cX11_isCourse : ByteArray := prog_1_method_15_code
def yX11_isCourse : MethodName := ⟨RX11, "isCourse", "(I)Z"⟩
abbrev cX11_fed : ByteArray := prog_1_method_16_code
def yX11_fed : MethodName := ⟨RX11, "fed", "(I)Z"⟩
abbrev cX11_truth : ByteArray := prog_1_method_17_code
def yX11_truth : MethodName := ⟨RX11, "truth", "(I)Z"⟩
abbrev cX11_meals : ByteArray := prog_1_method_18_code
def yX11_meals : MethodName := ⟨RX11, "meals", "(I)I"⟩
abbrev cX11_holdMeal : ByteArray := prog_1_method_19_code
def yX11_holdMeal : MethodName := ⟨RX11, "holdMeal", "()V"⟩
abbrev cX11_isGone : ByteArray := prog_1_method_20_code
def yX11_isGone : MethodName := ⟨RX11, "isGone", "(I)Z"⟩
abbrev cX11_log : ByteArray := prog_1_method_21_code
def yX11_log : MethodName := ⟨RX11, "log", "(II)I"⟩
abbrev cX11_plan : ByteArray := prog_1_method_22_code
def yX11_plan : MethodName := ⟨RX11, "plan", "(II)I"⟩
abbrev cX11_power : ByteArray := prog_1_method_23_code
def yX11_power : MethodName := ⟨RX11, "power", "(II)I"⟩
abbrev cX11_part : ByteArray := prog_1_method_24_code
def yX11_part : MethodName := ⟨RX11, "part", "(III)I"⟩
abbrev cX11_taken : ByteArray := prog_1_method_25_code
def yX11_taken : MethodName := ⟨RX11, "taken", "(II)I"⟩
abbrev cX11_washed : ByteArray := prog_1_method_26_code
def yX11_washed : MethodName := ⟨RX11, "washed", "(II)I"⟩
abbrev cX11_strike : ByteArray := prog_1_method_27_code
def yX11_strike : MethodName := ⟨RX11, "strike", "(I)I"⟩
abbrev cX11_note : ByteArray := prog_1_method_28_code
def yX11_note : MethodName := ⟨RX11, "note", "(III)I"⟩
abbrev cX11_known : ByteArray := prog_1_method_29_code
def yX11_known : MethodName := ⟨RX11, "known", "(I)Z"⟩
abbrev cX11_fits : ByteArray := prog_1_method_30_code
def yX11_fits : MethodName := ⟨RX11, "fits", "()I"⟩
abbrev cX11_fitting : ByteArray := prog_1_method_31_code
def yX11_fitting : MethodName := ⟨RX11, "fitting", "()I"⟩
abbrev cX11_sure : ByteArray := prog_1_method_32_code
def yX11_sure : MethodName := ⟨RX11, "sure", "(I)I"⟩
abbrev cX11_odds : ByteArray := prog_1_method_33_code
def yX11_odds : MethodName := ⟨RX11, "odds", "(II)I"⟩
abbrev cX11_fraud : ByteArray := prog_1_method_34_code
def yX11_fraud : MethodName := ⟨RX11, "fraud", "()I"⟩
abbrev cX11_tried : ByteArray := prog_1_method_35_code
def yX11_tried : MethodName := ⟨RX11, "tried", "(III)I"⟩
abbrev cX11_undo : ByteArray := prog_1_method_36_code
def yX11_undo : MethodName := ⟨RX11, "undo", "()I"⟩
abbrev cX11_keep : ByteArray := prog_1_method_37_code
def yX11_keep : MethodName := ⟨RX11, "keep", "()I"⟩
abbrev cX11_back : ByteArray := prog_1_method_38_code
def yX11_back : MethodName := ⟨RX11, "back", "()I"⟩
abbrev cX11_count : ByteArray := prog_1_method_39_code
def yX11_count : MethodName := ⟨RX11, "count", "(I)I"⟩
def RX12 : String := "PlateVoteModel"
def TX12 : u_T := fun k => match k with
  | 0 => ("PlateVoteModel", "thrown", "I", false)
  | 1 => ("PlateVoteModel", "tape", "[I", true)
  | 2 => ("PlateVoteModel", "taped", "I", false)
  | 3 => ("PlateVoteModel", "number", "[I", true)
  | 4 => ("PlateVoteModel", "isLand", "[Z", true)
  | 5 => ("PlateVoteModel", "isleName", "[I", true)
  | 6 => ("PlateVoteModel", "isleCell", "[I", true)
  | 7 => ("PlateVoteModel", "isleReach", "[I", true)
  | 8 => ("PlateVoteModel", "isleGoats", "[I", true)
  | 9 => ("PlateVoteModel", "windCourse", "[I", true)
  | 10 => ("PlateVoteModel", "galeMeal", "[I", true)
  | 11 => ("PlateVoteModel", "galeCourse", "[I", true)
  | 12 => ("PlateVoteModel", "galePlates", "[I", true)
  | 13 => ("PlateVoteModel", "mouthName", "[I", true)
  | 14 => ("PlateVoteModel", "mouthPlates", "[I", true)
  | 15 => ("PlateVoteModel", "mouthFrom", "[I", true)
  | 16 => ("PlateVoteModel", "mouthTill", "[I", true)
  | 17 => ("PlateVoteModel", "sickFrom", "[I", true)
  | 18 => ("PlateVoteModel", "sickTill", "[I", true)
  | 19 => ("PlateVoteModel", "loses", "[I", true)
  | 20 => ("PlateVoteModel", "oddsOf", "[I", true)
  | 21 => ("PlateVoteModel", "sumFrom", "[I", true)
  | 22 => ("PlateVoteModel", "sumTo", "[I", true)
  | 23 => ("PlateVoteModel", "knotSort", "[I", true)
  | 24 => ("PlateVoteModel", "knotValue", "[I", true)
  | 25 => ("PlateVoteModel", "told", "I", false)
  | 26 => ("PlateVoteModel", "lines", "I", false)
  | 27 => ("PlateVoteModel", "size", "I", false)
  | 28 => ("PlateVoteModel", "at", "I", false)
  | 29 => ("PlateVoteModel", "place", "I", false)
  | 30 => ("PlateVoteModel", "sort", "I", false)
  | 31 => ("PlateVoteModel", "value", "I", false)
  | 32 => ("PlateVoteModel", "fault", "I", false)
  | 33 => ("PlateVoteModel", "faultPlace", "I", false)
  | 34 => ("PlateVoteModel", "lastFault", "I", false)
  | 35 => ("PlateVoteModel", "lastPlace", "I", false)
  | 36 => ("PlateVoteModel", "open", "I", false)
  | 37 => ("PlateVoteModel", "counted", "I", false)
  | 38 => ("PlateVoteModel", "far", "[I", true)
  | 39 => ("PlateVoteModel", "meal", "[I", true)
  | 40 => ("PlateVoteModel", "cell", "[I", true)
  | 41 => ("PlateVoteModel", "soup", "[I", true)
  | 42 => ("PlateVoteModel", "drawn", "[I", true)
  | 43 => ("PlateVoteModel", "arrived", "[I", true)
  | 44 => ("PlateVoteModel", "fed", "[I", true)
  | 45 => ("PlateVoteModel", "truth", "[I", true)
  | 46 => ("PlateVoteModel", "lost", "[I", true)
  | 47 => ("PlateVoteModel", "leapt", "[Z", true)
  | 48 => ("PlateVoteModel", "logCourse", "[I", true)
  | 49 => ("PlateVoteModel", "logEaten", "[I", true)
  | 50 => ("PlateVoteModel", "logCell", "[I", true)
  | 51 => ("PlateVoteModel", "logStorm", "[I", true)
  | 52 => ("PlateVoteModel", "logFed", "[I", true)
  | 53 => ("PlateVoteModel", "hasImage", "Z", false)
  | 54 => ("PlateVoteModel", "undoMany", "I", false)
  | 55 => ("PlateVoteModel", "tryWhat", "I", false)
  | 56 => ("PlateVoteModel", "tryAt", "I", false)
  | 57 => ("PlateVoteModel", "isStill", "Z", false)
  | 58 => ("PlateVoteModel", "names", "[J", true)
  | 59 => ("PlateVoteModel", "worked", "[J", true)
  | 60 => ("PlateVoteModel", "workedMany", "I", false)
  | 61 => ("PlateVoteModel", "has", "[I", true)
  | 62 => ("PlateVoteModel", "choice", "[I", true)
  | 63 => ("PlateVoteModel", "votes", "[I", true)
  | 64 => ("PlateVoteModel", "eaten", "I", false)
  | 65 => ("PlateVoteModel", "planFed", "[I", true)
  | 66 => ("PlateVoteModel", "bestFed", "[I", true)
  | 67 => ("PlateVoteModel", "bestSoup", "I", false)
  | 68 => ("PlateVoteModel", "bestMeals", "I", false)
  | 69 => ("PlateVoteModel", "wayMeal", "[I", true)
  | 70 => ("PlateVoteModel", "wayCell", "[I", true)
  | 71 => ("PlateVoteModel", "waySoup", "[I", true)
  | 72 => ("PlateVoteModel", "wayLost", "[I", true)
  | 73 => ("PlateVoteModel", "wayLeapt", "[Z", true)
  | 74 => ("PlateVoteModel", "notes", "I", false)
  | 75 => ("PlateVoteModel", "knownBy", "I", false)
  | 76 => ("PlateVoteModel", "noteMeal", "[I", true)
  | 77 => ("PlateVoteModel", "noteSort", "[I", true)
  | 78 => ("PlateVoteModel", "noteValue", "[I", true)
  | _ => ("PlateVoteModel", "isStruck", "[Z", true)
def tyX12 : Nat → FieldType := fun k => match k with
  | 0 => .int
  | 1 => .array .int
  | 2 => .int
  | 3 => .array .int
  | 4 => .array .boolean
  | 5 => .array .int
  | 6 => .array .int
  | 7 => .array .int
  | 8 => .array .int
  | 9 => .array .int
  | 10 => .array .int
  | 11 => .array .int
  | 12 => .array .int
  | 13 => .array .int
  | 14 => .array .int
  | 15 => .array .int
  | 16 => .array .int
  | 17 => .array .int
  | 18 => .array .int
  | 19 => .array .int
  | 20 => .array .int
  | 21 => .array .int
  | 22 => .array .int
  | 23 => .array .int
  | 24 => .array .int
  | 25 => .int
  | 26 => .int
  | 27 => .int
  | 28 => .int
  | 29 => .int
  | 30 => .int
  | 31 => .int
  | 32 => .int
  | 33 => .int
  | 34 => .int
  | 35 => .int
  | 36 => .int
  | 37 => .int
  | 38 => .array .int
  | 39 => .array .int
  | 40 => .array .int
  | 41 => .array .int
  | 42 => .array .int
  | 43 => .array .int
  | 44 => .array .int
  | 45 => .array .int
  | 46 => .array .int
  | 47 => .array .boolean
  | 48 => .array .int
  | 49 => .array .int
  | 50 => .array .int
  | 51 => .array .int
  | 52 => .array .int
  | 53 => .boolean
  | 54 => .int
  | 55 => .int
  | 56 => .int
  | 57 => .boolean
  | 58 => .array .long
  | 59 => .array .long
  | 60 => .int
  | 61 => .array .int
  | 62 => .array .int
  | 63 => .array .int
  | 64 => .int
  | 65 => .array .int
  | 66 => .array .int
  | 67 => .int
  | 68 => .int
  | 69 => .array .int
  | 70 => .array .int
  | 71 => .array .int
  | 72 => .array .int
  | 73 => .array .boolean
  | 74 => .int
  | 75 => .int
  | 76 => .array .int
  | 77 => .array .int
  | 78 => .array .int
  | _ => .array .boolean
abbrev wsX120 : List Cond := u_ws RX12 TX12 80
theorem nmX12 : ∀ a, a < 80 → ∀ b, b < 80 → a ≠ b → (TX12 a).2.1 ≠ (TX12 b).2.1 := by decide +kernel
theorem tyX12_ok : ∀ k, k < 80 → parseFieldDescriptor (TX12 k).2.2.1 = some (tyX12 k) := by decide +kernel
abbrev cX12_init : ByteArray := prog_14_method_1_code
def yX12_init : MethodName := ⟨RX12, "<init>", "()V"⟩
abbrev cX12_thrown : ByteArray := prog_14_method_2_code
def yX12_thrown : MethodName := ⟨RX12, "thrown", "()I"⟩
abbrev cX12_feed : ByteArray := prog_14_method_3_code
def yX12_feed : MethodName := ⟨RX12, "feed", "(IIIII)I"⟩
abbrev cX12_here : ByteArray := prog_14_method_4_code
def yX12_here : MethodName := ⟨RX12, "here", "()I"⟩
abbrev cX12_isSmall : ByteArray := prog_14_method_5_code
def yX12_isSmall : MethodName := ⟨RX12, "isSmall", "(I)Z"⟩
abbrev cX12_isDigit : ByteArray := prog_14_method_6_code
def yX12_isDigit : MethodName := ⟨RX12, "isDigit", "(I)Z"⟩
abbrev cX12_token : ByteArray := prog_14_method_7_code
def yX12_token : MethodName := ⟨RX12, "token", "()V"⟩
abbrev cX12_sign : ByteArray := prog_14_method_8_code
def yX12_sign : MethodName := ⟨RX12, "sign", "(I)V"⟩
abbrev cX12_word : ByteArray := prog_14_method_9_code
def yX12_word : MethodName := ⟨RX12, "word", "()I"⟩
abbrev cX12_name : ByteArray := prog_14_method_10_code
def yX12_name : MethodName := ⟨RX12, "name", "()V"⟩
abbrev cX12_wrong : ByteArray := prog_14_method_11_code
def yX12_wrong : MethodName := ⟨RX12, "wrong", "(I)V"⟩
abbrev cX12_isWord : ByteArray := prog_14_method_12_code
def yX12_isWord : MethodName := ⟨RX12, "isWord", "(I)Z"⟩
abbrev cX12_isSign : ByteArray := prog_14_method_13_code
def yX12_isSign : MethodName := ⟨RX12, "isSign", "(I)Z"⟩
abbrev cX12_goOn : ByteArray := prog_14_method_14_code
def yX12_goOn : MethodName := ⟨RX12, "goOn", "()V"⟩
abbrev cX12_numeralAtHand : ByteArray := prog_14_method_15_code
def yX12_numeralAtHand : MethodName := ⟨RX12, "numeralAtHand", "(II)I"⟩
abbrev cX12_numeral : ByteArray := prog_14_method_16_code
def yX12_numeral : MethodName := ⟨RX12, "numeral", "(II)I"⟩
abbrev cX12_found : ByteArray := prog_14_method_17_code
def yX12_found : MethodName := ⟨RX12, "found", "([IIII)I"⟩
abbrev cX12_cellAtHand : ByteArray := prog_14_method_18_code
def yX12_cellAtHand : MethodName := ⟨RX12, "cellAtHand", "()I"⟩
abbrev cX12_water : ByteArray := prog_14_method_19_code
def yX12_water : MethodName := ⟨RX12, "water", "()I"⟩
abbrev cX12_fresher : ByteArray := prog_14_method_20_code
def yX12_fresher : MethodName := ⟨RX12, "fresher", "(I)I"⟩
abbrev cX12_reads : ByteArray := prog_14_method_21_code
def yX12_reads : MethodName := ⟨RX12, "reads", "(II)V"⟩
abbrev cX12_isFull : ByteArray := prog_14_method_22_code
def yX12_isFull : MethodName := ⟨RX12, "isFull", "(I)Z"⟩
abbrev cX12_isOnce : ByteArray := prog_14_method_23_code
def yX12_isOnce : MethodName := ⟨RX12, "isOnce", "(I)Z"⟩
abbrev cX12_isTold : ByteArray := prog_14_method_24_code
def yX12_isTold : MethodName := ⟨RX12, "isTold", "(I)Z"⟩
abbrev cX12_line : ByteArray := prog_14_method_25_code
def yX12_line : MethodName := ⟨RX12, "line", "()V"⟩
abbrev cX12_landLine : ByteArray := prog_14_method_26_code
def yX12_landLine : MethodName := ⟨RX12, "landLine", "()V"⟩
abbrev cX12_isleLine : ByteArray := prog_14_method_27_code
def yX12_isleLine : MethodName := ⟨RX12, "isleLine", "(I)V"⟩
abbrev cX12_windLine : ByteArray := prog_14_method_28_code
def yX12_windLine : MethodName := ⟨RX12, "windLine", "()V"⟩
abbrev cX12_mouthNamed : ByteArray := prog_14_method_29_code
def yX12_mouthNamed : MethodName := ⟨RX12, "mouthNamed", "(I)I"⟩
abbrev cX12_mouthLine : ByteArray := prog_14_method_30_code
def yX12_mouthLine : MethodName := ⟨RX12, "mouthLine", "(IZ)V"⟩
abbrev cX12_puts : ByteArray := prog_14_method_31_code
def yX12_puts : MethodName := ⟨RX12, "puts", "(II)V"⟩
abbrev cX12_knot : ByteArray := prog_14_method_32_code
def yX12_knot : MethodName := ⟨RX12, "knot", "()V"⟩
abbrev cX12_expression : ByteArray := prog_14_method_33_code
def yX12_expression : MethodName := ⟨RX12, "expression", "()V"⟩
abbrev cX12_conjunction : ByteArray := prog_14_method_34_code
def yX12_conjunction : MethodName := ⟨RX12, "conjunction", "()V"⟩
abbrev cX12_negation : ByteArray := prog_14_method_35_code
def yX12_negation : MethodName := ⟨RX12, "negation", "()V"⟩
abbrev cX12_sum : ByteArray := prog_14_method_36_code
def yX12_sum : MethodName := ⟨RX12, "sum", "()V"⟩
abbrev cX12_product : ByteArray := prog_14_method_37_code
def yX12_product : MethodName := ⟨RX12, "product", "()V"⟩
abbrev cX12_primary : ByteArray := prog_14_method_38_code
def yX12_primary : MethodName := ⟨RX12, "primary", "()V"⟩
abbrev cX12_half : ByteArray := prog_14_method_39_code
def yX12_half : MethodName := ⟨RX12, "half", "([I)V"⟩
abbrev cX12_text : ByteArray := prog_14_method_40_code
def yX12_text : MethodName := ⟨RX12, "text", "(I)I"⟩
abbrev cX12_fault : ByteArray := prog_14_method_41_code
def yX12_fault : MethodName := ⟨RX12, "fault", "(I)I"⟩
abbrev cX12_slot : ByteArray := prog_14_method_42_code
def yX12_slot : MethodName := ⟨RX12, "slot", "(I)I"⟩
abbrev cX12_named : ByteArray := prog_14_method_43_code
def yX12_named : MethodName := ⟨RX12, "named", "(II)I"⟩
abbrev cX12_cells : ByteArray := prog_14_method_44_code
def yX12_cells : MethodName := ⟨RX12, "cells", "()I"⟩
abbrev cX12_isCell : ByteArray := prog_14_method_45_code
def yX12_isCell : MethodName := ⟨RX12, "isCell", "(I)Z"⟩
abbrev cX12_leads : ByteArray := prog_14_method_46_code
def yX12_leads : MethodName := ⟨RX12, "leads", "(II)I"⟩
abbrev cX12_layFar : ByteArray := prog_14_method_47_code
def yX12_layFar : MethodName := ⟨RX12, "layFar", "()V"⟩
abbrev cX12_far : ByteArray := prog_14_method_48_code
def yX12_far : MethodName := ⟨RX12, "far", "(II)I"⟩
abbrev cX12_land : ByteArray := prog_14_method_49_code
def yX12_land : MethodName := ⟨RX12, "land", "(I)I"⟩
abbrev cX12_begins : ByteArray := prog_14_method_50_code
def yX12_begins : MethodName := ⟨RX12, "begins", "(I)V"⟩
abbrev cX12_copies : ByteArray := prog_14_method_51_code
def yX12_copies : MethodName := ⟨RX12, "copies", "(II)V"⟩
abbrev cX12_copiesLog : ByteArray := prog_14_method_52_code
def yX12_copiesLog : MethodName := ⟨RX12, "copiesLog", "(II)V"⟩
abbrev cX12_plain : ByteArray := prog_14_method_53_code
def yX12_plain : MethodName := ⟨RX12, "plain", "()V"⟩
abbrev cX12_isThere : ByteArray := prog_14_method_54_code
def yX12_isThere : MethodName := ⟨RX12, "isThere", "(I)Z"⟩
abbrev cX12_isAboard : ByteArray := prog_14_method_55_code
def yX12_isAboard : MethodName := ⟨RX12, "isAboard", "(II)Z"⟩
abbrev cX12_platesOf : ByteArray := prog_14_method_56_code
def yX12_platesOf : MethodName := ⟨RX12, "platesOf", "(II)I"⟩
abbrev cX12_is : ByteArray := prog_14_method_57_code
def yX12_is : MethodName := ⟨RX12, "is", "(Z)J"⟩
abbrev cX12_works : ByteArray := prog_14_method_58_code
def yX12_works : MethodName := ⟨RX12, "works", "(I)Z"⟩
abbrev cX12_goes : ByteArray := prog_14_method_59_code
def yX12_goes : MethodName := ⟨RX12, "goes", "(I)Z"⟩
abbrev cX12_windOf : ByteArray := prog_14_method_60_code
def yX12_windOf : MethodName := ⟨RX12, "windOf", "(I)I"⟩
abbrev cX12_says : ByteArray := prog_14_method_61_code
def yX12_says : MethodName := ⟨RX12, "says", "(IIIIII)Z"⟩
abbrev cX12_votesFor : ByteArray := prog_14_method_62_code
def yX12_votesFor : MethodName := ⟨RX12, "votesFor", "(IIII)I"⟩
abbrev cX12_sits : ByteArray := prog_14_method_63_code
def yX12_sits : MethodName := ⟨RX12, "sits", "(I)V"⟩
abbrev cX12_nearest : ByteArray := prog_14_method_64_code
def yX12_nearest : MethodName := ⟨RX12, "nearest", "(II)I"⟩
abbrev cX12_draw : ByteArray := prog_14_method_65_code
def yX12_draw : MethodName := ⟨RX12, "draw", "(II)I"⟩
abbrev cX12_top : ByteArray := prog_14_method_66_code
def yX12_top : MethodName := ⟨RX12, "top", "()I"⟩
abbrev cX12_passes : ByteArray := prog_14_method_67_code
def yX12_passes : MethodName := ⟨RX12, "passes", "(I)V"⟩
abbrev cX12_look : ByteArray := prog_14_method_68_code
def yX12_look : MethodName := ⟨RX12, "look", "(II)I"⟩
abbrev cX12_ship : ByteArray := prog_14_method_69_code
def yX12_ship : MethodName := ⟨RX12, "ship", "(I)I"⟩
abbrev cX12_wish : ByteArray := prog_14_method_70_code
def yX12_wish : MethodName := ⟨RX12, "wish", "(I)I"⟩
abbrev cX12_law : ByteArray := prog_14_method_71_code
def yX12_law : MethodName := ⟨RX12, "law", "(III)J"⟩
abbrev cX12_votes : ByteArray := prog_14_method_72_code
def yX12_votes : MethodName := ⟨RX12, "votes", "(I)I"⟩
abbrev cX12_fed : ByteArray := prog_14_method_73_code
def yX12_fed : MethodName := ⟨RX12, "fed", "(I)Z"⟩
abbrev cX12_truth : ByteArray := prog_14_method_74_code
def yX12_truth : MethodName := ⟨RX12, "truth", "(I)Z"⟩
abbrev cX12_meals : ByteArray := prog_14_method_75_code
def yX12_meals : MethodName := ⟨RX12, "meals", "(I)I"⟩
abbrev cX12_keepNow : ByteArray := prog_14_method_76_code
def yX12_keepNow : MethodName := ⟨RX12, "keepNow", "()V"⟩
abbrev cX12_log : ByteArray := prog_14_method_77_code
def yX12_log : MethodName := ⟨RX12, "log", "(II)I"⟩
abbrev cX12_puts_ : ByteArray := prog_14_method_78_code
def yX12_puts_ : MethodName := ⟨RX12, "puts", "(I)V"⟩
abbrev cX12_takes : ByteArray := prog_14_method_79_code
def yX12_takes : MethodName := ⟨RX12, "takes", "(I)V"⟩
abbrev cX12_plans : ByteArray := prog_14_method_80_code
def yX12_plans : MethodName := ⟨RX12, "plans", "(III)V"⟩
abbrev cX12_plan : ByteArray := prog_14_method_81_code
def yX12_plan : MethodName := ⟨RX12, "plan", "(II)I"⟩
abbrev cX12_factorial : ByteArray := prog_14_method_82_code
def yX12_factorial : MethodName := ⟨RX12, "factorial", "(I)I"⟩
abbrev cX12_common : ByteArray := prog_14_method_83_code
def yX12_common : MethodName := ⟨RX12, "common", "(II)I"⟩
abbrev cX12_bitsOf : ByteArray := prog_14_method_84_code
def yX12_bitsOf : MethodName := ⟨RX12, "bitsOf", "(I)I"⟩
abbrev cX12_power : ByteArray := prog_14_method_85_code
def yX12_power : MethodName := ⟨RX12, "power", "(II)I"⟩
abbrev cX12_added : ByteArray := prog_14_method_86_code
def yX12_added : MethodName := ⟨RX12, "added", "(III)I"⟩
abbrev cX12_taken : ByteArray := prog_14_method_87_code
def yX12_taken : MethodName := ⟨RX12, "taken", "(II)I"⟩
abbrev cX12_washed : ByteArray := prog_14_method_88_code
def yX12_washed : MethodName := ⟨RX12, "washed", "(II)I"⟩
abbrev cX12_strike : ByteArray := prog_14_method_89_code
def yX12_strike : MethodName := ⟨RX12, "strike", "(I)I"⟩
abbrev cX12_known : ByteArray := prog_14_method_90_code
def yX12_known : MethodName := ⟨RX12, "known", "(I)Z"⟩
abbrev cX12_knownMany : ByteArray := prog_14_method_91_code
def yX12_knownMany : MethodName := ⟨RX12, "knownMany", "()I"⟩
abbrev cX12_strikes : ByteArray := prog_14_method_92_code
def yX12_strikes : MethodName := ⟨RX12, "strikes", "()V"⟩
abbrev cX12_firstWrong : ByteArray := prog_14_method_93_code
def yX12_firstWrong : MethodName := ⟨RX12, "firstWrong", "(I)I"⟩
abbrev cX12_fits : ByteArray := prog_14_method_94_code
def yX12_fits : MethodName := ⟨RX12, "fits", "()I"⟩
abbrev cX12_isMay : ByteArray := prog_14_method_95_code
def yX12_isMay : MethodName := ⟨RX12, "isMay", "(I)Z"⟩
abbrev cX12_sure : ByteArray := prog_14_method_96_code
def yX12_sure : MethodName := ⟨RX12, "sure", "(I)I"⟩
abbrev cX12_odds : ByteArray := prog_14_method_97_code
def yX12_odds : MethodName := ⟨RX12, "odds", "(II)I"⟩
abbrev cX12_fraud : ByteArray := prog_14_method_98_code
def yX12_fraud : MethodName := ⟨RX12, "fraud", "()I"⟩
abbrev cX12_tried : ByteArray := prog_14_method_99_code
def yX12_tried : MethodName := ⟨RX12, "tried", "(III)I"⟩
abbrev cX12_undo : ByteArray := prog_14_method_100_code
def yX12_undo : MethodName := ⟨RX12, "undo", "()I"⟩
abbrev cX12_keep : ByteArray := prog_14_method_101_code
def yX12_keep : MethodName := ⟨RX12, "keep", "()I"⟩
abbrev cX12_back : ByteArray := prog_14_method_102_code
def yX12_back : MethodName := ⟨RX12, "back", "()I"⟩
abbrev cX12_count : ByteArray := prog_14_method_103_code
def yX12_count : MethodName := ⟨RX12, "count", "(I)I"⟩
def RJ6 : String := "java/lang/Integer"
def TJ6 : u_T := fun k => match k with
  | _ => ("", "", "", false)
def tyJ6 : Nat → FieldType := fun k => match k with
  | _ => .int
abbrev wsJ60 : List Cond := u_ws RJ6 TJ6 0
theorem nmJ6 : ∀ a, a < 0 → ∀ b, b < 0 → a ≠ b → (TJ6 a).2.1 ≠ (TJ6 b).2.1 := by decide +kernel
theorem tyJ6_ok : ∀ k, k < 0 → parseFieldDescriptor (TJ6 k).2.2.1 = some (tyJ6 k) := by decide +kernel
abbrev cJ6_bitCount_0f7a4 : ByteArray := prog_20_method_49_code
def yJ6_bitCount_0f7a4 : MethodName := ⟨RJ6, "bitCount", "(I)I"⟩
def RJ9 : String := "java/lang/Math"
def TJ9 : u_T := fun k => match k with
  | _ => ("", "", "", false)
def tyJ9 : Nat → FieldType := fun k => match k with
  | _ => .int
abbrev wsJ90 : List Cond := u_ws RJ9 TJ9 0
theorem nmJ9 : ∀ a, a < 0 → ∀ b, b < 0 → a ≠ b → (TJ9 a).2.1 ≠ (TJ9 b).2.1 := by decide +kernel
theorem tyJ9_ok : ∀ k, k < 0 → parseFieldDescriptor (TJ9 k).2.2.1 = some (tyJ9 k) := by decide +kernel
abbrev cJ9_abs_067f4 : ByteArray := prog_21_method_61_code
def yJ9_abs_067f4 : MethodName := ⟨RJ9, "abs", "(J)J"⟩
abbrev cJ9_max_7cf53 : ByteArray := prog_21_method_65_code
def yJ9_max_7cf53 : MethodName := ⟨RJ9, "max", "(II)I"⟩
abbrev cJ9_min_7cf53 : ByteArray := prog_21_method_69_code
def yJ9_min_7cf53 : MethodName := ⟨RJ9, "min", "(II)I"⟩
def RJ0 : String := "java/lang/String"
def TJ0 : u_T := fun k => match k with
  | _ => ("", "", "", false)
def tyJ0 : Nat → FieldType := fun k => match k with
  | _ => .int
abbrev wsJ00 : List Cond := u_ws RJ0 TJ0 0
theorem nmJ0 : ∀ a, a < 0 → ∀ b, b < 0 → a ≠ b → (TJ0 a).2.1 ≠ (TJ0 b).2.1 := by decide +kernel
theorem tyJ0_ok : ∀ k, k < 0 → parseFieldDescriptor (TJ0 k).2.2.1 = some (tyJ0 k) := by decide +kernel
abbrev cJ0_length_8abf5 : ByteArray := prog_23_method_54_code
def yJ0_length_8abf5 : MethodName := ⟨RJ0, "length", "()I"⟩
abbrev cJ0_charAt_5068e : ByteArray := prog_23_method_56_code
def yJ0_charAt_5068e : MethodName := ⟨RJ0, "charAt", "(I)C"⟩
abbrev cJ0_coder_7d493 : ByteArray := prog_23_method_152_code
def yJ0_coder_7d493 : MethodName := ⟨RJ0, "coder", "()B"⟩
abbrev cJ0_isLatin1_aae02 : ByteArray := prog_23_method_154_code
def yJ0_isLatin1_aae02 : MethodName := ⟨RJ0, "isLatin1", "()Z"⟩
abbrev cJ0_checkIndex_df160 : ByteArray := prog_23_method_155_code
def yJ0_checkIndex_df160 : MethodName := ⟨RJ0, "checkIndex", "(II)V"⟩
def RJ1 : String := "java/lang/StringLatin1"
def TJ1 : u_T := fun k => match k with
  | _ => ("", "", "", false)
def tyJ1 : Nat → FieldType := fun k => match k with
  | _ => .int
abbrev wsJ10 : List Cond := u_ws RJ1 TJ1 0
theorem nmJ1 : ∀ a, a < 0 → ∀ b, b < 0 → a ≠ b → (TJ1 a).2.1 ≠ (TJ1 b).2.1 := by decide +kernel
theorem tyJ1_ok : ∀ k, k < 0 → parseFieldDescriptor (TJ1 k).2.2.1 = some (tyJ1 k) := by decide +kernel
abbrev cJ1_charAt_3b067 : ByteArray := prog_24_method_2_code
def yJ1_charAt_3b067 : MethodName := ⟨RJ1, "charAt", "([BI)C"⟩
def RJ2 : String := "java/lang/StringUTF16"
def TJ2 : u_T := fun k => match k with
  | _ => ("", "", "", false)
def tyJ2 : Nat → FieldType := fun k => match k with
  | _ => .int
abbrev wsJ20 : List Cond := u_ws RJ2 TJ2 0
theorem nmJ2 : ∀ a, a < 0 → ∀ b, b < 0 → a ≠ b → (TJ2 a).2.1 ≠ (TJ2 b).2.1 := by decide +kernel
theorem tyJ2_ok : ∀ k, k < 0 → parseFieldDescriptor (TJ2 k).2.2.1 = some (tyJ2 k) := by decide +kernel
abbrev cJ2_getChar_3b067 : ByteArray := prog_25_method_5_code
def yJ2_getChar_3b067 : MethodName := ⟨RJ2, "getChar", "([BI)C"⟩
abbrev cJ2_length_9d52b : ByteArray := prog_25_method_6_code
def yJ2_length_9d52b : MethodName := ⟨RJ2, "length", "([B)I"⟩
abbrev cJ2_charAt_3b067 : ByteArray := prog_25_method_83_code
def yJ2_charAt_3b067 : MethodName := ⟨RJ2, "charAt", "([BI)C"⟩
abbrev cJ2_checkIndex_2214a : ByteArray := prog_25_method_91_code
def yJ2_checkIndex_2214a : MethodName := ⟨RJ2, "checkIndex", "(I[B)V"⟩
def RJ3 : String := "jdk/internal/util/Preconditions"
def TJ3 : u_T := fun k => match k with
  | _ => ("", "", "", false)
def tyJ3 : Nat → FieldType := fun k => match k with
  | _ => .int
abbrev wsJ30 : List Cond := u_ws RJ3 TJ3 0
theorem nmJ3 : ∀ a, a < 0 → ∀ b, b < 0 → a ≠ b → (TJ3 a).2.1 ≠ (TJ3 b).2.1 := by decide +kernel
theorem tyJ3_ok : ∀ k, k < 0 → parseFieldDescriptor (TJ3 k).2.2.1 = some (tyJ3 k) := by decide +kernel
abbrev cJ3_checkIndex_8e157 : ByteArray := prog_30_method_11_code
def yJ3_checkIndex_8e157 : MethodName := ⟨RJ3, "checkIndex", "(IILjava/util/function/BiFunction;)I"⟩
def RL : String := "PlateVoteLaw"
abbrev cL_look : ByteArray := method_3_code
def yL_look : MethodName := ⟨RL, "look", "(LPlateVote;II[J)I"⟩
abbrev cL_law : ByteArray := code
def yL_law : MethodName := ⟨RL, "law", "([I)Z"⟩
abbrev vwCl : List vw_C := [(RX0, TX0, 15), (RX1, TX1, 5), (RX2, TX2, 11), (RX3, TX3, 5), (RX4, TX4, 10), (RX5, TX5, 6), (RX6, TX6, 6), (RX7, TX7, 19), (RX8, TX8, 10), (RX9, TX9, 13), (RX10, TX10, 9), (RX11, TX11, 17), (RX12, TX12, 80)]

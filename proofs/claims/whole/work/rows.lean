section
-- ===== PART A: goes FIRST, ahead of the names: the tables' words, and 'selects' of the private methods out of them =====
/-- a private method of a class that the tables say can be made, by its rows of tables_1 -/
def lw_okq (q : MethodName × Nat) : Prop := (q.1.cls ≠ "java/lang/invoke/MethodHandle" ∧ q.1.cls ≠ "java/lang/invoke/VarHandle") ∧ Cond.instantiable q.1.cls q.2 ∈ tables_1 ∧ Cond.privateMethod q.1 ∈ tables_1 ∧ Cond.instanceMethod q.1 ∈ tables_1
theorem lw_p0 : lw_okq (⟨"HorseSigns$Tape", "take", "()V"⟩, 10) := ⟨⟨by decide +kernel, by decide +kernel⟩, List.mem_of_getElem? (i := 105) (by decide +kernel), List.mem_of_getElem? (i := 241) (by decide +kernel), List.mem_of_getElem? (i := 242) (by decide +kernel)⟩
theorem lw_p1 : lw_okq (⟨"HorseSigns$Tape", "byteAt", "(I)I"⟩, 10) := ⟨⟨by decide +kernel, by decide +kernel⟩, List.mem_of_getElem? (i := 105) (by decide +kernel), List.mem_of_getElem? (i := 245) (by decide +kernel), List.mem_of_getElem? (i := 246) (by decide +kernel)⟩
theorem lw_p2 : lw_okq (⟨"HorseSigns$Tape", "fail", "(II)V"⟩, 10) := ⟨⟨by decide +kernel, by decide +kernel⟩, List.mem_of_getElem? (i := 105) (by decide +kernel), List.mem_of_getElem? (i := 255) (by decide +kernel), List.mem_of_getElem? (i := 256) (by decide +kernel)⟩
theorem lw_p3 : lw_okq (⟨"HorseSigns$Tape", "takeLine", "(LHorseSigns$Square;)V"⟩, 10) := ⟨⟨by decide +kernel, by decide +kernel⟩, List.mem_of_getElem? (i := 105) (by decide +kernel), List.mem_of_getElem? (i := 259) (by decide +kernel), List.mem_of_getElem? (i := 260) (by decide +kernel)⟩
theorem lw_p4 : lw_okq (⟨"HorseSigns$Tape", "isNamed", "(Ljava/lang/String;)Z"⟩, 10) := ⟨⟨by decide +kernel, by decide +kernel⟩, List.mem_of_getElem? (i := 105) (by decide +kernel), List.mem_of_getElem? (i := 264) (by decide +kernel), List.mem_of_getElem? (i := 265) (by decide +kernel)⟩
theorem lw_p5 : lw_okq (⟨"HorseSigns$Tape", "takeRider", "(LHorseSigns$Square;I)V"⟩, 10) := ⟨⟨by decide +kernel, by decide +kernel⟩, List.mem_of_getElem? (i := 105) (by decide +kernel), List.mem_of_getElem? (i := 316) (by decide +kernel), List.mem_of_getElem? (i := 317) (by decide +kernel)⟩
theorem lw_p6 : lw_okq (⟨"HorseSigns$Tape", "takeNumber", "(II)I"⟩, 10) := ⟨⟨by decide +kernel, by decide +kernel⟩, List.mem_of_getElem? (i := 105) (by decide +kernel), List.mem_of_getElem? (i := 320) (by decide +kernel), List.mem_of_getElem? (i := 321) (by decide +kernel)⟩
theorem lw_p7 : lw_okq (⟨"HorseSigns$Tape", "takeSemicolon", "()V"⟩, 10) := ⟨⟨by decide +kernel, by decide +kernel⟩, List.mem_of_getElem? (i := 105) (by decide +kernel), List.mem_of_getElem? (i := 324) (by decide +kernel), List.mem_of_getElem? (i := 325) (by decide +kernel)⟩
theorem lw_p8 : lw_okq (⟨"HorseSigns$Tape", "takeBearing", "(LHorseSigns$Square;)V"⟩, 10) := ⟨⟨by decide +kernel, by decide +kernel⟩, List.mem_of_getElem? (i := 105) (by decide +kernel), List.mem_of_getElem? (i := 336) (by decide +kernel), List.mem_of_getElem? (i := 337) (by decide +kernel)⟩
theorem lw_p9 : lw_okq (⟨"HorseSigns$Tape", "takeTrust", "(LHorseSigns$Square;)V"⟩, 10) := ⟨⟨by decide +kernel, by decide +kernel⟩, List.mem_of_getElem? (i := 105) (by decide +kernel), List.mem_of_getElem? (i := 341) (by decide +kernel), List.mem_of_getElem? (i := 342) (by decide +kernel)⟩
theorem lw_p10 : lw_okq (⟨"HorseSigns$Tape", "takeReport", "(LHorseSigns$Square;)V"⟩, 10) := ⟨⟨by decide +kernel, by decide +kernel⟩, List.mem_of_getElem? (i := 105) (by decide +kernel), List.mem_of_getElem? (i := 346) (by decide +kernel), List.mem_of_getElem? (i := 347) (by decide +kernel)⟩
theorem lw_p11 : lw_okq (⟨"HorseSigns", "isRider", "(I)Z"⟩, 10) := ⟨⟨by decide +kernel, by decide +kernel⟩, List.mem_of_getElem? (i := 16) (by decide +kernel), List.mem_of_getElem? (i := 422) (by decide +kernel), List.mem_of_getElem? (i := 423) (by decide +kernel)⟩
theorem lw_p12 : lw_okq (⟨"HorseSigns$Square", "dayOfNextReport", "(I)I"⟩, 15) := ⟨⟨by decide +kernel, by decide +kernel⟩, List.mem_of_getElem? (i := 24) (by decide +kernel), List.mem_of_getElem? (i := 495) (by decide +kernel), List.mem_of_getElem? (i := 496) (by decide +kernel)⟩
theorem lw_p13 : lw_okq (⟨"HorseSigns", "agreeingBehind", "(I)I"⟩, 10) := ⟨⟨by decide +kernel, by decide +kernel⟩, List.mem_of_getElem? (i := 16) (by decide +kernel), List.mem_of_getElem? (i := 545) (by decide +kernel), List.mem_of_getElem? (i := 546) (by decide +kernel)⟩
theorem lw_p14 : lw_okq (⟨"HorseSigns", "clangsByOdds", "(III)J"⟩, 10) := ⟨⟨by decide +kernel, by decide +kernel⟩, List.mem_of_getElem? (i := 16) (by decide +kernel), List.mem_of_getElem? (i := 586) (by decide +kernel), List.mem_of_getElem? (i := 587) (by decide +kernel)⟩
theorem lw_p15 : lw_okq (⟨"HorseSigns$Sightings", "lastDay", "()I"⟩, 4) := ⟨⟨by decide +kernel, by decide +kernel⟩, List.mem_of_getElem? (i := 147) (by decide +kernel), List.mem_of_getElem? (i := 610) (by decide +kernel), List.mem_of_getElem? (i := 611) (by decide +kernel)⟩
def lw_privs_1 : List (MethodName × Nat) := [(⟨"HorseSigns$Tape", "take", "()V"⟩, 10), (⟨"HorseSigns$Tape", "byteAt", "(I)I"⟩, 10), (⟨"HorseSigns$Tape", "fail", "(II)V"⟩, 10), (⟨"HorseSigns$Tape", "takeLine", "(LHorseSigns$Square;)V"⟩, 10), (⟨"HorseSigns$Tape", "isNamed", "(Ljava/lang/String;)Z"⟩, 10), (⟨"HorseSigns$Tape", "takeRider", "(LHorseSigns$Square;I)V"⟩, 10), (⟨"HorseSigns$Tape", "takeNumber", "(II)I"⟩, 10), (⟨"HorseSigns$Tape", "takeSemicolon", "()V"⟩, 10), (⟨"HorseSigns$Tape", "takeBearing", "(LHorseSigns$Square;)V"⟩, 10), (⟨"HorseSigns$Tape", "takeTrust", "(LHorseSigns$Square;)V"⟩, 10), (⟨"HorseSigns$Tape", "takeReport", "(LHorseSigns$Square;)V"⟩, 10), (⟨"HorseSigns", "isRider", "(I)Z"⟩, 10), (⟨"HorseSigns$Square", "dayOfNextReport", "(I)I"⟩, 15), (⟨"HorseSigns", "agreeingBehind", "(I)I"⟩, 10), (⟨"HorseSigns", "clangsByOdds", "(III)J"⟩, 10), (⟨"HorseSigns$Sightings", "lastDay", "()I"⟩, 4)]
theorem lw_r1 : ∀ q ∈ lw_privs_1, lw_okq q := List.forall_mem_cons.mpr ⟨lw_p0, List.forall_mem_cons.mpr ⟨lw_p1, List.forall_mem_cons.mpr ⟨lw_p2, List.forall_mem_cons.mpr ⟨lw_p3, List.forall_mem_cons.mpr ⟨lw_p4, List.forall_mem_cons.mpr ⟨lw_p5, List.forall_mem_cons.mpr ⟨lw_p6, List.forall_mem_cons.mpr ⟨lw_p7, List.forall_mem_cons.mpr ⟨lw_p8, List.forall_mem_cons.mpr ⟨lw_p9, List.forall_mem_cons.mpr ⟨lw_p10, List.forall_mem_cons.mpr ⟨lw_p11, List.forall_mem_cons.mpr ⟨lw_p12, List.forall_mem_cons.mpr ⟨lw_p13, List.forall_mem_cons.mpr ⟨lw_p14, List.forall_mem_cons.mpr ⟨lw_p15, fun _ h => absurd h List.not_mem_nil⟩⟩⟩⟩⟩⟩⟩⟩⟩⟩⟩⟩⟩⟩⟩⟩
theorem lw_p16 : lw_okq (⟨"HorseSigns$Sightings", "areTrueOn", "(ILHorseSigns$Square;)Z"⟩, 4) := ⟨⟨by decide +kernel, by decide +kernel⟩, List.mem_of_getElem? (i := 147) (by decide +kernel), List.mem_of_getElem? (i := 615) (by decide +kernel), List.mem_of_getElem? (i := 616) (by decide +kernel)⟩
theorem lw_p17 : lw_okq (⟨"HorseSigns", "fittingUps", "(I)I"⟩, 10) := ⟨⟨by decide +kernel, by decide +kernel⟩, List.mem_of_getElem? (i := 16) (by decide +kernel), List.mem_of_getElem? (i := 624) (by decide +kernel), List.mem_of_getElem? (i := 625) (by decide +kernel)⟩
theorem lw_p18 : lw_okq (⟨"HorseSigns", "image", "(I)LHorseSigns$Square;"⟩, 10) := ⟨⟨by decide +kernel, by decide +kernel⟩, List.mem_of_getElem? (i := 16) (by decide +kernel), List.mem_of_getElem? (i := 644) (by decide +kernel), List.mem_of_getElem? (i := 645) (by decide +kernel)⟩
theorem lw_p19 : lw_okq (⟨"HorseSigns", "sendFrom", "(II)I"⟩, 10) := ⟨⟨by decide +kernel, by decide +kernel⟩, List.mem_of_getElem? (i := 16) (by decide +kernel), List.mem_of_getElem? (i := 684) (by decide +kernel), List.mem_of_getElem? (i := 685) (by decide +kernel)⟩
theorem lw_p20 : lw_okq (⟨"HorseSignsModel", "step", "()V"⟩, 30) := ⟨⟨by decide +kernel, by decide +kernel⟩, List.mem_of_getElem? (i := 704) (by decide +kernel), List.mem_of_getElem? (i := 818) (by decide +kernel), List.mem_of_getElem? (i := 819) (by decide +kernel)⟩
theorem lw_p21 : lw_okq (⟨"HorseSignsModel", "byteAt", "(I)I"⟩, 30) := ⟨⟨by decide +kernel, by decide +kernel⟩, List.mem_of_getElem? (i := 704) (by decide +kernel), List.mem_of_getElem? (i := 822) (by decide +kernel), List.mem_of_getElem? (i := 823) (by decide +kernel)⟩
theorem lw_p22 : lw_okq (⟨"HorseSignsModel", "fails", "(I)V"⟩, 30) := ⟨⟨by decide +kernel, by decide +kernel⟩, List.mem_of_getElem? (i := 704) (by decide +kernel), List.mem_of_getElem? (i := 830) (by decide +kernel), List.mem_of_getElem? (i := 831) (by decide +kernel)⟩
theorem lw_p23 : lw_okq (⟨"HorseSignsModel", "readLine", "()V"⟩, 30) := ⟨⟨by decide +kernel, by decide +kernel⟩, List.mem_of_getElem? (i := 704) (by decide +kernel), List.mem_of_getElem? (i := 834) (by decide +kernel), List.mem_of_getElem? (i := 835) (by decide +kernel)⟩
theorem lw_p24 : lw_okq (⟨"HorseSignsModel", "nameHere", "()I"⟩, 30) := ⟨⟨by decide +kernel, by decide +kernel⟩, List.mem_of_getElem? (i := 704) (by decide +kernel), List.mem_of_getElem? (i := 838) (by decide +kernel), List.mem_of_getElem? (i := 839) (by decide +kernel)⟩
theorem lw_p25 : lw_okq (⟨"HorseSignsModel", "readMore", "(I)V"⟩, 30) := ⟨⟨by decide +kernel, by decide +kernel⟩, List.mem_of_getElem? (i := 704) (by decide +kernel), List.mem_of_getElem? (i := 843) (by decide +kernel), List.mem_of_getElem? (i := 844) (by decide +kernel)⟩
theorem lw_p26 : lw_okq (⟨"HorseSignsModel", "number", "(II)I"⟩, 30) := ⟨⟨by decide +kernel, by decide +kernel⟩, List.mem_of_getElem? (i := 704) (by decide +kernel), List.mem_of_getElem? (i := 847) (by decide +kernel), List.mem_of_getElem? (i := 848) (by decide +kernel)⟩
theorem lw_p27 : lw_okq (⟨"HorseSignsModel", "readReport", "()V"⟩, 30) := ⟨⟨by decide +kernel, by decide +kernel⟩, List.mem_of_getElem? (i := 704) (by decide +kernel), List.mem_of_getElem? (i := 851) (by decide +kernel), List.mem_of_getElem? (i := 852) (by decide +kernel)⟩
theorem lw_p28 : lw_okq (⟨"HorseSignsModel", "readTrust", "()V"⟩, 30) := ⟨⟨by decide +kernel, by decide +kernel⟩, List.mem_of_getElem? (i := 704) (by decide +kernel), List.mem_of_getElem? (i := 855) (by decide +kernel), List.mem_of_getElem? (i := 856) (by decide +kernel)⟩
theorem lw_p29 : lw_okq (⟨"HorseSignsModel", "standsOn", "(II)Z"⟩, 30) := ⟨⟨by decide +kernel, by decide +kernel⟩, List.mem_of_getElem? (i := 704) (by decide +kernel), List.mem_of_getElem? (i := 868) (by decide +kernel), List.mem_of_getElem? (i := 869) (by decide +kernel)⟩
theorem lw_p30 : lw_okq (⟨"HorseSignsModel", "isUpright", "(III)Z"⟩, 30) := ⟨⟨by decide +kernel, by decide +kernel⟩, List.mem_of_getElem? (i := 704) (by decide +kernel), List.mem_of_getElem? (i := 872) (by decide +kernel), List.mem_of_getElem? (i := 873) (by decide +kernel)⟩
theorem lw_p31 : lw_okq (⟨"HorseSignsModel", "agreeOn", "(I)I"⟩, 30) := ⟨⟨by decide +kernel, by decide +kernel⟩, List.mem_of_getElem? (i := 704) (by decide +kernel), List.mem_of_getElem? (i := 879) (by decide +kernel), List.mem_of_getElem? (i := 880) (by decide +kernel)⟩
def lw_privs_2 : List (MethodName × Nat) := [(⟨"HorseSigns$Sightings", "areTrueOn", "(ILHorseSigns$Square;)Z"⟩, 4), (⟨"HorseSigns", "fittingUps", "(I)I"⟩, 10), (⟨"HorseSigns", "image", "(I)LHorseSigns$Square;"⟩, 10), (⟨"HorseSigns", "sendFrom", "(II)I"⟩, 10), (⟨"HorseSignsModel", "step", "()V"⟩, 30), (⟨"HorseSignsModel", "byteAt", "(I)I"⟩, 30), (⟨"HorseSignsModel", "fails", "(I)V"⟩, 30), (⟨"HorseSignsModel", "readLine", "()V"⟩, 30), (⟨"HorseSignsModel", "nameHere", "()I"⟩, 30), (⟨"HorseSignsModel", "readMore", "(I)V"⟩, 30), (⟨"HorseSignsModel", "number", "(II)I"⟩, 30), (⟨"HorseSignsModel", "readReport", "()V"⟩, 30), (⟨"HorseSignsModel", "readTrust", "()V"⟩, 30), (⟨"HorseSignsModel", "standsOn", "(II)Z"⟩, 30), (⟨"HorseSignsModel", "isUpright", "(III)Z"⟩, 30), (⟨"HorseSignsModel", "agreeOn", "(I)I"⟩, 30)]
theorem lw_r2 : ∀ q ∈ lw_privs_2, lw_okq q := List.forall_mem_cons.mpr ⟨lw_p16, List.forall_mem_cons.mpr ⟨lw_p17, List.forall_mem_cons.mpr ⟨lw_p18, List.forall_mem_cons.mpr ⟨lw_p19, List.forall_mem_cons.mpr ⟨lw_p20, List.forall_mem_cons.mpr ⟨lw_p21, List.forall_mem_cons.mpr ⟨lw_p22, List.forall_mem_cons.mpr ⟨lw_p23, List.forall_mem_cons.mpr ⟨lw_p24, List.forall_mem_cons.mpr ⟨lw_p25, List.forall_mem_cons.mpr ⟨lw_p26, List.forall_mem_cons.mpr ⟨lw_p27, List.forall_mem_cons.mpr ⟨lw_p28, List.forall_mem_cons.mpr ⟨lw_p29, List.forall_mem_cons.mpr ⟨lw_p30, List.forall_mem_cons.mpr ⟨lw_p31, fun _ h => absurd h List.not_mem_nil⟩⟩⟩⟩⟩⟩⟩⟩⟩⟩⟩⟩⟩⟩⟩⟩
theorem lw_p32 : lw_okq (⟨"HorseSignsModel", "agreesOn", "(II)Z"⟩, 30) := ⟨⟨by decide +kernel, by decide +kernel⟩, List.mem_of_getElem? (i := 704) (by decide +kernel), List.mem_of_getElem? (i := 883) (by decide +kernel), List.mem_of_getElem? (i := 884) (by decide +kernel)⟩
theorem lw_p33 : lw_okq (⟨"HorseSignsModel", "believedOn", "(III)I"⟩, 30) := ⟨⟨by decide +kernel, by decide +kernel⟩, List.mem_of_getElem? (i := 704) (by decide +kernel), List.mem_of_getElem? (i := 887) (by decide +kernel), List.mem_of_getElem? (i := 888) (by decide +kernel)⟩
theorem lw_p34 : lw_okq (⟨"HorseSignsModel", "toldOn", "(IIII)I"⟩, 30) := ⟨⟨by decide +kernel, by decide +kernel⟩, List.mem_of_getElem? (i := 704) (by decide +kernel), List.mem_of_getElem? (i := 891) (by decide +kernel), List.mem_of_getElem? (i := 892) (by decide +kernel)⟩
theorem lw_p35 : lw_okq (⟨"HorseSignsModel", "readsOn", "(II)I"⟩, 30) := ⟨⟨by decide +kernel, by decide +kernel⟩, List.mem_of_getElem? (i := 704) (by decide +kernel), List.mem_of_getElem? (i := 895) (by decide +kernel), List.mem_of_getElem? (i := 896) (by decide +kernel)⟩
theorem lw_p36 : lw_okq (⟨"HorseSignsModel", "isRider", "(I)Z"⟩, 30) := ⟨⟨by decide +kernel, by decide +kernel⟩, List.mem_of_getElem? (i := 704) (by decide +kernel), List.mem_of_getElem? (i := 906) (by decide +kernel), List.mem_of_getElem? (i := 907) (by decide +kernel)⟩
theorem lw_p37 : lw_okq (⟨"HorseSignsModel", "isReport", "(I)Z"⟩, 30) := ⟨⟨by decide +kernel, by decide +kernel⟩, List.mem_of_getElem? (i := 704) (by decide +kernel), List.mem_of_getElem? (i := 915) (by decide +kernel), List.mem_of_getElem? (i := 916) (by decide +kernel)⟩
theorem lw_p38 : lw_okq (⟨"HorseSignsModel", "puts", "(ZIII)I"⟩, 30) := ⟨⟨by decide +kernel, by decide +kernel⟩, List.mem_of_getElem? (i := 704) (by decide +kernel), List.mem_of_getElem? (i := 942) (by decide +kernel), List.mem_of_getElem? (i := 943) (by decide +kernel)⟩
theorem lw_p39 : lw_okq (⟨"HorseSignsModel", "sends", "(IIII)I"⟩, 30) := ⟨⟨by decide +kernel, by decide +kernel⟩, List.mem_of_getElem? (i := 704) (by decide +kernel), List.mem_of_getElem? (i := 959) (by decide +kernel), List.mem_of_getElem? (i := 960) (by decide +kernel)⟩
theorem lw_p40 : lw_okq (⟨"HorseSignsModel", "dayOn", "(I)V"⟩, 30) := ⟨⟨by decide +kernel, by decide +kernel⟩, List.mem_of_getElem? (i := 704) (by decide +kernel), List.mem_of_getElem? (i := 972) (by decide +kernel), List.mem_of_getElem? (i := 973) (by decide +kernel)⟩
theorem lw_p41 : lw_okq (⟨"HorseSignsModel", "legOn", "(II)I"⟩, 30) := ⟨⟨by decide +kernel, by decide +kernel⟩, List.mem_of_getElem? (i := 704) (by decide +kernel), List.mem_of_getElem? (i := 976) (by decide +kernel), List.mem_of_getElem? (i := 977) (by decide +kernel)⟩
theorem lw_p42 : lw_okq (⟨"HorseSignsModel", "daysGo", "(II)I"⟩, 30) := ⟨⟨by decide +kernel, by decide +kernel⟩, List.mem_of_getElem? (i := 704) (by decide +kernel), List.mem_of_getElem? (i := 988) (by decide +kernel), List.mem_of_getElem? (i := 989) (by decide +kernel)⟩
theorem lw_p43 : lw_okq (⟨"HorseSignsModel", "copies", "(II)V"⟩, 30) := ⟨⟨by decide +kernel, by decide +kernel⟩, List.mem_of_getElem? (i := 704) (by decide +kernel), List.mem_of_getElem? (i := 992) (by decide +kernel), List.mem_of_getElem? (i := 993) (by decide +kernel)⟩
theorem lw_p44 : lw_okq (⟨"HorseSignsModel", "agreeBehind", "(II)I"⟩, 30) := ⟨⟨by decide +kernel, by decide +kernel⟩, List.mem_of_getElem? (i := 704) (by decide +kernel), List.mem_of_getElem? (i := 1028) (by decide +kernel), List.mem_of_getElem? (i := 1029) (by decide +kernel)⟩
theorem lw_p45 : lw_okq (⟨"HorseSignsModel", "byFalse", "(IIIII)J"⟩, 30) := ⟨⟨by decide +kernel, by decide +kernel⟩, List.mem_of_getElem? (i := 704) (by decide +kernel), List.mem_of_getElem? (i := 1053) (by decide +kernel), List.mem_of_getElem? (i := 1054) (by decide +kernel)⟩
theorem lw_p46 : lw_okq (⟨"HorseSignsModel", "isAsSeen", "(I)Z"⟩, 30) := ⟨⟨by decide +kernel, by decide +kernel⟩, List.mem_of_getElem? (i := 704) (by decide +kernel), List.mem_of_getElem? (i := 1078) (by decide +kernel), List.mem_of_getElem? (i := 1079) (by decide +kernel)⟩
theorem lw_p47 : lw_okq (⟨"HorseSignsModel", "upsOf", "(I)I"⟩, 30) := ⟨⟨by decide +kernel, by decide +kernel⟩, List.mem_of_getElem? (i := 704) (by decide +kernel), List.mem_of_getElem? (i := 1086) (by decide +kernel), List.mem_of_getElem? (i := 1087) (by decide +kernel)⟩
def lw_privs_3 : List (MethodName × Nat) := [(⟨"HorseSignsModel", "agreesOn", "(II)Z"⟩, 30), (⟨"HorseSignsModel", "believedOn", "(III)I"⟩, 30), (⟨"HorseSignsModel", "toldOn", "(IIII)I"⟩, 30), (⟨"HorseSignsModel", "readsOn", "(II)I"⟩, 30), (⟨"HorseSignsModel", "isRider", "(I)Z"⟩, 30), (⟨"HorseSignsModel", "isReport", "(I)Z"⟩, 30), (⟨"HorseSignsModel", "puts", "(ZIII)I"⟩, 30), (⟨"HorseSignsModel", "sends", "(IIII)I"⟩, 30), (⟨"HorseSignsModel", "dayOn", "(I)V"⟩, 30), (⟨"HorseSignsModel", "legOn", "(II)I"⟩, 30), (⟨"HorseSignsModel", "daysGo", "(II)I"⟩, 30), (⟨"HorseSignsModel", "copies", "(II)V"⟩, 30), (⟨"HorseSignsModel", "agreeBehind", "(II)I"⟩, 30), (⟨"HorseSignsModel", "byFalse", "(IIIII)J"⟩, 30), (⟨"HorseSignsModel", "isAsSeen", "(I)Z"⟩, 30), (⟨"HorseSignsModel", "upsOf", "(I)I"⟩, 30)]
theorem lw_r3 : ∀ q ∈ lw_privs_3, lw_okq q := List.forall_mem_cons.mpr ⟨lw_p32, List.forall_mem_cons.mpr ⟨lw_p33, List.forall_mem_cons.mpr ⟨lw_p34, List.forall_mem_cons.mpr ⟨lw_p35, List.forall_mem_cons.mpr ⟨lw_p36, List.forall_mem_cons.mpr ⟨lw_p37, List.forall_mem_cons.mpr ⟨lw_p38, List.forall_mem_cons.mpr ⟨lw_p39, List.forall_mem_cons.mpr ⟨lw_p40, List.forall_mem_cons.mpr ⟨lw_p41, List.forall_mem_cons.mpr ⟨lw_p42, List.forall_mem_cons.mpr ⟨lw_p43, List.forall_mem_cons.mpr ⟨lw_p44, List.forall_mem_cons.mpr ⟨lw_p45, List.forall_mem_cons.mpr ⟨lw_p46, List.forall_mem_cons.mpr ⟨lw_p47, fun _ h => absurd h List.not_mem_nil⟩⟩⟩⟩⟩⟩⟩⟩⟩⟩⟩⟩⟩⟩⟩⟩
theorem lw_p48 : lw_okq (⟨"HorseSignsModel", "worstAt", "(II)I"⟩, 30) := ⟨⟨by decide +kernel, by decide +kernel⟩, List.mem_of_getElem? (i := 704) (by decide +kernel), List.mem_of_getElem? (i := 1094) (by decide +kernel), List.mem_of_getElem? (i := 1095) (by decide +kernel)⟩
def lw_privs_4 : List (MethodName × Nat) := [(⟨"HorseSignsModel", "worstAt", "(II)I"⟩, 30)]
theorem lw_r4 : ∀ q ∈ lw_privs_4, lw_okq q := List.forall_mem_cons.mpr ⟨lw_p48, fun _ h => absurd h List.not_mem_nil⟩
def lw_privs : List (MethodName × Nat) := lw_privs_1 ++ (lw_privs_2 ++ (lw_privs_3 ++ (lw_privs_4)))
def lw_tbl : List Cond := k2_sels lw_privs ++ tables_1
theorem lw_privs_ok : ∀ q ∈ lw_privs, lw_okq q := by
  show ∀ q ∈ lw_privs_1 ++ (lw_privs_2 ++ (lw_privs_3 ++ (lw_privs_4))), lw_okq q
  exact List.forall_mem_append.mpr ⟨lw_r1, List.forall_mem_append.mpr ⟨lw_r2, List.forall_mem_append.mpr ⟨lw_r3, lw_r4⟩⟩⟩
end
section
theorem goodIn_r {big : List Cond} (ws : List Cond) (ps : List Nat) (hp : ws = ps.filterMap (fun i => big[i]?)) (h : ws.all goodWord = true) : GoodIn big ws := by
  intro w hw
  have h1 := List.all_eq_true.mp h w hw
  rw [hp] at hw
  obtain ⟨i, -, hi⟩ := List.mem_filterMap.mp hw
  have hm : w ∈ big := by first | exact List.mem_of_getElem? hi | exact List.getElem?_mem hi
  exact ⟨hm, good_of_word h1⟩
theorem goodIn_app {big a b : List Cond} (ha : GoodIn big a) (hb : GoodIn big b) : GoodIn big (a ++ b) := fun w h => (List.mem_append.mp h).elim (ha w) (hb w)
theorem goodIn_ca {big a b : List Cond} {c : Cond} (ha : GoodIn big (c :: a)) (hb : GoodIn big b) : GoodIn big (c :: (a ++ b)) := fun w h => (List.mem_cons.mp h).elim (fun e => ha w (List.mem_cons.mpr (Or.inl e))) (fun h => (List.mem_append.mp h).elim (fun h => ha w (List.mem_cons.mpr (Or.inr h))) (hb w))
theorem goodIn_sub {big ws : List Cond} (hm : ∀ w ∈ ws, w ∈ big) (h : ws.all goodWord = true) : GoodIn big ws := fun w hw => ⟨hm w hw, good_of_word (List.all_eq_true.mp h w hw)⟩
def RX0 : String := "HorseSigns$Sheets"
def TX0 : u_T := fun k => match k with
  | 0 => ("HorseSigns$Sheets", "laneOf", "[I", true)
  | 1 => ("HorseSigns$Sheets", "sizeOf", "[I", true)
  | _ => ("HorseSigns$Sheets", "cells", "[I", true)
def tyX0 : Nat → FieldType := fun k => match k with
  | 0 => .array .int
  | 1 => .array .int
  | _ => .array .int
abbrev wsX00 : List Cond := u_ws RX0 TX0 3
theorem nmX0 : ∀ a, a < 3 → ∀ b, b < 3 → a ≠ b → (TX0 a).2.1 ≠ (TX0 b).2.1 := by decide +kernel
theorem tyX0_ok : ∀ k, k < 3 → parseFieldDescriptor (TX0 k).2.2.1 = some (tyX0 k) := by decide +kernel
abbrev cX0_init : ByteArray := prog_2_method_1_code
def yX0_init : MethodName := ⟨RX0, "<init>", "()V"⟩
abbrev cX0_isSheet : ByteArray := prog_2_method_2_code
def yX0_isSheet : MethodName := ⟨RX0, "isSheet", "(I)Z"⟩
abbrev cX0_isLane : ByteArray := prog_2_method_3_code
def yX0_isLane : MethodName := ⟨RX0, "isLane", "(I)Z"⟩
abbrev cX0_renew : ByteArray := prog_2_method_4_code
def yX0_renew : MethodName := ⟨RX0, "renew", "(III)V"⟩
abbrev cX0_faultOf : ByteArray := prog_2_method_5_code
def yX0_faultOf : MethodName := ⟨RX0, "faultOf", "(IIII)I"⟩
abbrev cX0_cell : ByteArray := prog_2_method_6_code
def yX0_cell : MethodName := ⟨RX0, "cell", "(II)I"⟩
abbrev cX0_put : ByteArray := prog_2_method_7_code
def yX0_put : MethodName := ⟨RX0, "put", "(III)V"⟩
def RX1 : String := "HorseSigns$Sightings"
def TX1 : u_T := fun k => match k with
  | 0 => ("HorseSigns$Sightings", "size", "I", false)
  | 1 => ("HorseSigns$Sightings", "behind", "[I", true)
  | 2 => ("HorseSigns$Sightings", "whose", "[I", true)
  | _ => ("HorseSigns$Sightings", "up", "[I", true)
def tyX1 : Nat → FieldType := fun k => match k with
  | 0 => .int
  | 1 => .array .int
  | 2 => .array .int
  | _ => .array .int
abbrev wsX10 : List Cond := u_ws RX1 TX1 4
theorem nmX1 : ∀ a, a < 4 → ∀ b, b < 4 → a ≠ b → (TX1 a).2.1 ≠ (TX1 b).2.1 := by decide +kernel
theorem tyX1_ok : ∀ k, k < 4 → parseFieldDescriptor (TX1 k).2.2.1 = some (tyX1 k) := by decide +kernel
abbrev cX1_init : ByteArray := prog_3_method_1_code
def yX1_init : MethodName := ⟨RX1, "<init>", "()V"⟩
abbrev cX1_append : ByteArray := prog_3_method_2_code
def yX1_append : MethodName := ⟨RX1, "append", "(III)Z"⟩
abbrev cX1_comeTrueIn : ByteArray := prog_3_method_3_code
def yX1_comeTrueIn : MethodName := ⟨RX1, "comeTrueIn", "(LHorseSigns$Square;)Z"⟩
abbrev cX1_lastDay : ByteArray := prog_3_method_4_code
def yX1_lastDay : MethodName := ⟨RX1, "lastDay", "()I"⟩
abbrev cX1_areTrueOn : ByteArray := prog_3_method_5_code
def yX1_areTrueOn : MethodName := ⟨RX1, "areTrueOn", "(ILHorseSigns$Square;)Z"⟩
def RX2 : String := "HorseSigns$Square"
def TX2 : u_T := fun k => match k with
  | 0 => ("HorseSigns$Square", "riders", "I", false)
  | 1 => ("HorseSigns$Square", "kindOf", "[I", true)
  | 2 => ("HorseSigns$Square", "upOf", "[I", true)
  | 3 => ("HorseSigns$Square", "weightOf", "[I", true)
  | 4 => ("HorseSigns$Square", "bearing", "I", false)
  | 5 => ("HorseSigns$Square", "trustOf", "[I", true)
  | 6 => ("HorseSigns$Square", "reports", "I", false)
  | 7 => ("HorseSigns$Square", "reportDay", "[I", true)
  | 8 => ("HorseSigns$Square", "reportBy", "[I", true)
  | 9 => ("HorseSigns$Square", "reportOn", "[I", true)
  | 10 => ("HorseSigns$Square", "reportEnd", "[I", true)
  | 11 => ("HorseSigns$Square", "unheard", "I", false)
  | 12 => ("HorseSigns$Square", "day", "I", false)
  | 13 => ("HorseSigns$Square", "clangs", "I", false)
  | _ => ("HorseSigns$Square", "sums", "[I", true)
def tyX2 : Nat → FieldType := fun k => match k with
  | 0 => .int
  | 1 => .array .int
  | 2 => .array .int
  | 3 => .array .int
  | 4 => .int
  | 5 => .array .int
  | 6 => .int
  | 7 => .array .int
  | 8 => .array .int
  | 9 => .array .int
  | 10 => .array .int
  | 11 => .int
  | 12 => .int
  | 13 => .int
  | _ => .array .int
abbrev wsX20 : List Cond := u_ws RX2 TX2 15
theorem nmX2 : ∀ a, a < 15 → ∀ b, b < 15 → a ≠ b → (TX2 a).2.1 ≠ (TX2 b).2.1 := by decide +kernel
theorem tyX2_ok : ∀ k, k < 15 → parseFieldDescriptor (TX2 k).2.2.1 = some (tyX2 k) := by decide +kernel
abbrev cX2_init : ByteArray := prog_4_method_1_code
def yX2_init : MethodName := ⟨RX2, "<init>", "()V"⟩
abbrev cX2_makeNew : ByteArray := prog_4_method_2_code
def yX2_makeNew : MethodName := ⟨RX2, "makeNew", "()V"⟩
abbrev cX2_copyFrom : ByteArray := prog_4_method_3_code
def yX2_copyFrom : MethodName := ⟨RX2, "copyFrom", "(LHorseSigns$Square;)V"⟩
abbrev cX2_addRider : ByteArray := prog_4_method_4_code
def yX2_addRider : MethodName := ⟨RX2, "addRider", "(III)Z"⟩
abbrev cX2_addReport : ByteArray := prog_4_method_5_code
def yX2_addReport : MethodName := ⟨RX2, "addReport", "(IIII)Z"⟩
abbrev cX2_readingOf : ByteArray := prog_4_method_6_code
def yX2_readingOf : MethodName := ⟨RX2, "readingOf", "(I)I"⟩
abbrev cX2_holds : ByteArray := prog_4_method_7_code
def yX2_holds : MethodName := ⟨RX2, "holds", "(II)Z"⟩
abbrev cX2_reportsOn : ByteArray := prog_4_method_8_code
def yX2_reportsOn : MethodName := ⟨RX2, "reportsOn", "(I)I"⟩
abbrev cX2_sumTrust : ByteArray := prog_4_method_9_code
def yX2_sumTrust : MethodName := ⟨RX2, "sumTrust", "(II)V"⟩
abbrev cX2_beliefOf : ByteArray := prog_4_method_10_code
def yX2_beliefOf : MethodName := ⟨RX2, "beliefOf", "(II)I"⟩
abbrev cX2_isContent : ByteArray := prog_4_method_11_code
def yX2_isContent : MethodName := ⟨RX2, "isContent", "(I)Z"⟩
abbrev cX2_agreeing : ByteArray := prog_4_method_12_code
def yX2_agreeing : MethodName := ⟨RX2, "agreeing", "()I"⟩
abbrev cX2_standing : ByteArray := prog_4_method_13_code
def yX2_standing : MethodName := ⟨RX2, "standing", "()I"⟩
abbrev cX2_moveHoof : ByteArray := prog_4_method_14_code
def yX2_moveHoof : MethodName := ⟨RX2, "moveHoof", "(I)I"⟩
abbrev cX2_passDay : ByteArray := prog_4_method_15_code
def yX2_passDay : MethodName := ⟨RX2, "passDay", "()I"⟩
abbrev cX2_passDays : ByteArray := prog_4_method_16_code
def yX2_passDays : MethodName := ⟨RX2, "passDays", "(I)I"⟩
abbrev cX2_dayOfNextReport : ByteArray := prog_4_method_17_code
def yX2_dayOfNextReport : MethodName := ⟨RX2, "dayOfNextReport", "(I)I"⟩
def RX3 : String := "HorseSigns$Tape"
def TX3 : u_T := fun k => match k with
  | 0 => ("HorseSigns$Tape", "bytes", "[B", true)
  | 1 => ("HorseSigns$Tape", "length", "I", false)
  | 2 => ("HorseSigns$Tape", "fault", "I", false)
  | 3 => ("HorseSigns$Tape", "faultPlace", "I", false)
  | 4 => ("HorseSigns$Tape", "lines", "I", false)
  | 5 => ("HorseSigns$Tape", "token", "I", false)
  | 6 => ("HorseSigns$Tape", "tokenFrom", "I", false)
  | 7 => ("HorseSigns$Tape", "tokenTo", "I", false)
  | 8 => ("HorseSigns$Tape", "bearingTold", "Z", false)
  | _ => ("HorseSigns$Tape", "trustsTold", "I", false)
def tyX3 : Nat → FieldType := fun k => match k with
  | 0 => .array .byte
  | 1 => .int
  | 2 => .int
  | 3 => .int
  | 4 => .int
  | 5 => .int
  | 6 => .int
  | 7 => .int
  | 8 => .boolean
  | _ => .int
abbrev wsX30 : List Cond := u_ws RX3 TX3 10
theorem nmX3 : ∀ a, a < 10 → ∀ b, b < 10 → a ≠ b → (TX3 a).2.1 ≠ (TX3 b).2.1 := by decide +kernel
theorem tyX3_ok : ∀ k, k < 10 → parseFieldDescriptor (TX3 k).2.2.1 = some (tyX3 k) := by decide +kernel
abbrev cX3_init : ByteArray := prog_5_method_1_code
def yX3_init : MethodName := ⟨RX3, "<init>", "()V"⟩
abbrev cX3_append : ByteArray := prog_5_method_2_code
def yX3_append : MethodName := ⟨RX3, "append", "(I)Z"⟩
abbrev cX3_parse : ByteArray := prog_5_method_3_code
def yX3_parse : MethodName := ⟨RX3, "parse", "(LHorseSigns$Square;)V"⟩
abbrev cX3_fail : ByteArray := prog_5_method_4_code
def yX3_fail : MethodName := ⟨RX3, "fail", "(II)V"⟩
abbrev cX3_byteAt : ByteArray := prog_5_method_5_code
def yX3_byteAt : MethodName := ⟨RX3, "byteAt", "(I)I"⟩
abbrev cX3_isLetter : ByteArray := prog_5_method_6_code
def yX3_isLetter : MethodName := ⟨RX3, "isLetter", "(I)Z"⟩
abbrev cX3_isFigure : ByteArray := prog_5_method_7_code
def yX3_isFigure : MethodName := ⟨RX3, "isFigure", "(I)Z"⟩
abbrev cX3_take : ByteArray := prog_5_method_8_code
def yX3_take : MethodName := ⟨RX3, "take", "()V"⟩
abbrev cX3_takeLine : ByteArray := prog_5_method_9_code
def yX3_takeLine : MethodName := ⟨RX3, "takeLine", "(LHorseSigns$Square;)V"⟩
abbrev cX3_isNamed : ByteArray := prog_5_method_10_code
def yX3_isNamed : MethodName := ⟨RX3, "isNamed", "(Ljava/lang/String;)Z"⟩
abbrev cX3_takeNumber : ByteArray := prog_5_method_11_code
def yX3_takeNumber : MethodName := ⟨RX3, "takeNumber", "(II)I"⟩
abbrev cX3_takeSemicolon : ByteArray := prog_5_method_12_code
def yX3_takeSemicolon : MethodName := ⟨RX3, "takeSemicolon", "()V"⟩
abbrev cX3_takeRider : ByteArray := prog_5_method_13_code
def yX3_takeRider : MethodName := ⟨RX3, "takeRider", "(LHorseSigns$Square;I)V"⟩
abbrev cX3_takeBearing : ByteArray := prog_5_method_14_code
def yX3_takeBearing : MethodName := ⟨RX3, "takeBearing", "(LHorseSigns$Square;)V"⟩
abbrev cX3_takeTrust : ByteArray := prog_5_method_15_code
def yX3_takeTrust : MethodName := ⟨RX3, "takeTrust", "(LHorseSigns$Square;)V"⟩
abbrev cX3_takeReport : ByteArray := prog_5_method_16_code
def yX3_takeReport : MethodName := ⟨RX3, "takeReport", "(LHorseSigns$Square;)V"⟩
abbrev cX3_tellsOfMissingRider : ByteArray := prog_5_method_17_code
def yX3_tellsOfMissingRider : MethodName := ⟨RX3, "tellsOfMissingRider", "(LHorseSigns$Square;)Z"⟩
def RX4 : String := "HorseSigns"
def TX4 : u_T := fun k => match k with
  | 0 => ("HorseSigns", "now", "LHorseSigns$Square;", true)
  | 1 => ("HorseSigns", "trial", "LHorseSigns$Square;", true)
  | 2 => ("HorseSigns", "firstImage", "LHorseSigns$Square;", true)
  | 3 => ("HorseSigns", "secondImage", "LHorseSigns$Square;", true)
  | 4 => ("HorseSigns", "tape", "LHorseSigns$Tape;", true)
  | 5 => ("HorseSigns", "sightings", "LHorseSigns$Sightings;", true)
  | 6 => ("HorseSigns", "sheets", "LHorseSigns$Sheets;", true)
  | 7 => ("HorseSigns", "imagesKept", "I", false)
  | 8 => ("HorseSigns", "textFault", "I", false)
  | _ => ("HorseSigns", "readFault", "I", false)
def tyX4 : Nat → FieldType := fun k => match k with
  | 0 => .object "HorseSigns$Square"
  | 1 => .object "HorseSigns$Square"
  | 2 => .object "HorseSigns$Square"
  | 3 => .object "HorseSigns$Square"
  | 4 => .object "HorseSigns$Tape"
  | 5 => .object "HorseSigns$Sightings"
  | 6 => .object "HorseSigns$Sheets"
  | 7 => .int
  | 8 => .int
  | _ => .int
abbrev wsX40 : List Cond := u_ws RX4 TX4 10
theorem nmX4 : ∀ a, a < 10 → ∀ b, b < 10 → a ≠ b → (TX4 a).2.1 ≠ (TX4 b).2.1 := by decide +kernel
theorem tyX4_ok : ∀ k, k < 10 → parseFieldDescriptor (TX4 k).2.2.1 = some (tyX4 k) := by decide +kernel
abbrev cX4_init : ByteArray := prog_1_method_1_code
def yX4_init : MethodName := ⟨RX4, "<init>", "()V"⟩
abbrev cX4_feed : ByteArray := prog_1_method_2_code
def yX4_feed : MethodName := ⟨RX4, "feed", "(I)I"⟩
abbrev cX4_end : ByteArray := prog_1_method_3_code
def yX4_end : MethodName := ⟨RX4, "end", "(I)I"⟩
abbrev cX4_text : ByteArray := prog_1_method_4_code
def yX4_text : MethodName := ⟨RX4, "text", "()I"⟩
abbrev cX4_fault : ByteArray := prog_1_method_5_code
def yX4_fault : MethodName := ⟨RX4, "fault", "()I"⟩
abbrev cX4_rule : ByteArray := prog_1_method_6_code
def yX4_rule : MethodName := ⟨RX4, "rule", "(I)I"⟩
abbrev cX4_rider : ByteArray := prog_1_method_7_code
def yX4_rider : MethodName := ⟨RX4, "rider", "(II)I"⟩
abbrev cX4_report : ByteArray := prog_1_method_8_code
def yX4_report : MethodName := ⟨RX4, "report", "(II)I"⟩
abbrev cX4_trust : ByteArray := prog_1_method_9_code
def yX4_trust : MethodName := ⟨RX4, "trust", "(I)I"⟩
abbrev cX4_told : ByteArray := prog_1_method_10_code
def yX4_told : MethodName := ⟨RX4, "told", "(III)I"⟩
abbrev cX4_alter : ByteArray := prog_1_method_11_code
def yX4_alter : MethodName := ⟨RX4, "alter", "(III)I"⟩
abbrev cX4_rely : ByteArray := prog_1_method_12_code
def yX4_rely : MethodName := ⟨RX4, "rely", "(II)I"⟩
abbrev cX4_cast : ByteArray := prog_1_method_13_code
def yX4_cast : MethodName := ⟨RX4, "cast", "(I)I"⟩
abbrev cX4_send : ByteArray := prog_1_method_14_code
def yX4_send : MethodName := ⟨RX4, "send", "(IIII)I"⟩
abbrev cX4_burn : ByteArray := prog_1_method_15_code
def yX4_burn : MethodName := ⟨RX4, "burn", "(I)I"⟩
abbrev cX4_days : ByteArray := prog_1_method_16_code
def yX4_days : MethodName := ⟨RX4, "days", "(I)I"⟩
abbrev cX4_runs : ByteArray := prog_1_method_17_code
def yX4_runs : MethodName := ⟨RX4, "runs", "(II)I"⟩
abbrev cX4_ahead : ByteArray := prog_1_method_18_code
def yX4_ahead : MethodName := ⟨RX4, "ahead", "(III)I"⟩
abbrev cX4_believed : ByteArray := prog_1_method_19_code
def yX4_believed : MethodName := ⟨RX4, "believed", "(II)I"⟩
abbrev cX4_agrees : ByteArray := prog_1_method_20_code
def yX4_agrees : MethodName := ⟨RX4, "agrees", "(I)I"⟩
abbrev cX4_pose : ByteArray := prog_1_method_21_code
def yX4_pose : MethodName := ⟨RX4, "pose", "(II)I"⟩
abbrev cX4_heavy : ByteArray := prog_1_method_22_code
def yX4_heavy : MethodName := ⟨RX4, "heavy", "(II)I"⟩
abbrev cX4_need : ByteArray := prog_1_method_23_code
def yX4_need : MethodName := ⟨RX4, "need", "()I"⟩
abbrev cX4_liar : ByteArray := prog_1_method_24_code
def yX4_liar : MethodName := ⟨RX4, "liar", "(II)I"⟩
abbrev cX4_lose : ByteArray := prog_1_method_25_code
def yX4_lose : MethodName := ⟨RX4, "lose", "(II)I"⟩
abbrev cX4_swap : ByteArray := prog_1_method_26_code
def yX4_swap : MethodName := ⟨RX4, "swap", "(II)I"⟩
abbrev cX4_gain : ByteArray := prog_1_method_27_code
def yX4_gain : MethodName := ⟨RX4, "gain", "(IIII)I"⟩
abbrev cX4_kind : ByteArray := prog_1_method_28_code
def yX4_kind : MethodName := ⟨RX4, "kind", "(III)I"⟩
abbrev cX4_luck : ByteArray := prog_1_method_29_code
def yX4_luck : MethodName := ⟨RX4, "luck", "(IIIII)J"⟩
abbrev cX4_mean : ByteArray := prog_1_method_30_code
def yX4_mean : MethodName := ⟨RX4, "mean", "(III)J"⟩
abbrev cX4_see : ByteArray := prog_1_method_31_code
def yX4_see : MethodName := ⟨RX4, "see", "(III)I"⟩
abbrev cX4_forget : ByteArray := prog_1_method_32_code
def yX4_forget : MethodName := ⟨RX4, "forget", "(I)I"⟩
abbrev cX4_kinds : ByteArray := prog_1_method_33_code
def yX4_kinds : MethodName := ⟨RX4, "kinds", "(I)I"⟩
abbrev cX4_ups : ByteArray := prog_1_method_34_code
def yX4_ups : MethodName := ⟨RX4, "ups", "(I)I"⟩
abbrev cX4_ask : ByteArray := prog_1_method_35_code
def yX4_ask : MethodName := ⟨RX4, "ask", "(II)I"⟩
abbrev cX4_drift : ByteArray := prog_1_method_36_code
def yX4_drift : MethodName := ⟨RX4, "drift", "(III)I"⟩
abbrev cX4_keep : ByteArray := prog_1_method_37_code
def yX4_keep : MethodName := ⟨RX4, "keep", "(I)I"⟩
abbrev cX4_back : ByteArray := prog_1_method_38_code
def yX4_back : MethodName := ⟨RX4, "back", "(I)I"⟩
abbrev cX4_sheet : ByteArray := prog_1_method_39_code
def yX4_sheet : MethodName := ⟨RX4, "sheet", "(III)I"⟩
abbrev cX4_lay : ByteArray := prog_1_method_40_code
def yX4_lay : MethodName := ⟨RX4, "lay", "(III)I"⟩
abbrev cX4_read : ByteArray := prog_1_method_41_code
def yX4_read : MethodName := ⟨RX4, "read", "(IIII)I"⟩
abbrev cX4_torn : ByteArray := prog_1_method_42_code
def yX4_torn : MethodName := ⟨RX4, "torn", "()I"⟩
abbrev cX4_count : ByteArray := prog_1_method_43_code
def yX4_count : MethodName := ⟨RX4, "count", "(I)I"⟩
abbrev cX4_within : ByteArray := prog_1_method_44_code
def yX4_within : MethodName := ⟨RX4, "within", "(III)Z"⟩
abbrev cX4_isReporter : ByteArray := prog_1_method_45_code
def yX4_isReporter : MethodName := ⟨RX4, "isReporter", "(I)Z"⟩
abbrev cX4_isEnd : ByteArray := prog_1_method_46_code
def yX4_isEnd : MethodName := ⟨RX4, "isEnd", "(I)Z"⟩
abbrev cX4_isDay : ByteArray := prog_1_method_47_code
def yX4_isDay : MethodName := ⟨RX4, "isDay", "(I)Z"⟩
abbrev cX4_isRunAhead : ByteArray := prog_1_method_48_code
def yX4_isRunAhead : MethodName := ⟨RX4, "isRunAhead", "(I)Z"⟩
abbrev cX4_isChoice : ByteArray := prog_1_method_49_code
def yX4_isChoice : MethodName := ⟨RX4, "isChoice", "(I)Z"⟩
abbrev cX4_isOdds : ByteArray := prog_1_method_50_code
def yX4_isOdds : MethodName := ⟨RX4, "isOdds", "(I)Z"⟩
abbrev cX4_isImage : ByteArray := prog_1_method_51_code
def yX4_isImage : MethodName := ⟨RX4, "isImage", "(I)Z"⟩
abbrev cX4_isRider : ByteArray := prog_1_method_52_code
def yX4_isRider : MethodName := ⟨RX4, "isRider", "(I)Z"⟩
abbrev cX4_exchange : ByteArray := prog_1_method_53_code
def yX4_exchange : MethodName := ⟨RX4, "exchange", "([III)I"⟩
abbrev cX4_sumOfFirst : ByteArray := prog_1_method_54_code
def yX4_sumOfFirst : MethodName := ⟨RX4, "sumOfFirst", "([II)I"⟩
abbrev cX4_legsDown : ByteArray := prog_1_method_55_code
def yX4_legsDown : MethodName := ⟨RX4, "legsDown", "(I)I"⟩
abbrev cX4_reading : ByteArray := prog_1_method_56_code
def yX4_reading : MethodName := ⟨RX4, "reading", "(II)I"⟩
abbrev cX4_image : ByteArray := prog_1_method_57_code
def yX4_image : MethodName := ⟨RX4, "image", "(I)LHorseSigns$Square;"⟩
abbrev cX4_sendFrom : ByteArray := prog_1_method_58_code
def yX4_sendFrom : MethodName := ⟨RX4, "sendFrom", "(II)I"⟩
abbrev cX4_agreeingBehind : ByteArray := prog_1_method_59_code
def yX4_agreeingBehind : MethodName := ⟨RX4, "agreeingBehind", "(I)I"⟩
abbrev cX4_fittingUps : ByteArray := prog_1_method_60_code
def yX4_fittingUps : MethodName := ⟨RX4, "fittingUps", "(I)I"⟩
abbrev cX4_clangsByOdds : ByteArray := prog_1_method_61_code
def yX4_clangsByOdds : MethodName := ⟨RX4, "clangsByOdds", "(III)J"⟩
abbrev cX4_oddsOf : ByteArray := prog_1_method_62_code
def yX4_oddsOf : MethodName := ⟨RX4, "oddsOf", "(III)J"⟩
abbrev cX4_power : ByteArray := prog_1_method_63_code
def yX4_power : MethodName := ⟨RX4, "power", "(II)J"⟩
abbrev cX4_lowestTerms : ByteArray := prog_1_method_64_code
def yX4_lowestTerms : MethodName := ⟨RX4, "lowestTerms", "(JJI)J"⟩
def RX5 : String := "HorseSignsModel"
def TX5 : u_T := fun k => match k with
  | 0 => ("HorseSignsModel", "state", "[I", true)
  | 1 => ("HorseSignsModel", "riderMany", "I", false)
  | 2 => ("HorseSignsModel", "readPage", "[I", true)
  | 3 => ("HorseSignsModel", "readRiders", "I", false)
  | 4 => ("HorseSignsModel", "toldTrust", "I", false)
  | 5 => ("HorseSignsModel", "isBearsTold", "Z", false)
  | 6 => ("HorseSignsModel", "high", "I", false)
  | 7 => ("HorseSignsModel", "tape", "[I", true)
  | 8 => ("HorseSignsModel", "taped", "I", false)
  | 9 => ("HorseSignsModel", "fault", "I", false)
  | 10 => ("HorseSignsModel", "broken", "I", false)
  | 11 => ("HorseSignsModel", "brokenAt", "I", false)
  | 12 => ("HorseSignsModel", "spot", "I", false)
  | 13 => ("HorseSignsModel", "here", "I", false)
  | 14 => ("HorseSignsModel", "token", "I", false)
  | 15 => ("HorseSignsModel", "value", "I", false)
  | 16 => ("HorseSignsModel", "ends", "[I", true)
  | 17 => ("HorseSignsModel", "letters", "[I", true)
  | 18 => ("HorseSignsModel", "falseOnes", "I", false)
  | 19 => ("HorseSignsModel", "clangs", "I", false)
  | 20 => ("HorseSignsModel", "loudDays", "I", false)
  | 21 => ("HorseSignsModel", "firstLoud", "I", false)
  | 22 => ("HorseSignsModel", "seen", "[I", true)
  | 23 => ("HorseSignsModel", "seenMany", "I", false)
  | 24 => ("HorseSignsModel", "upBy", "[I", true)
  | 25 => ("HorseSignsModel", "isKept", "[Z", true)
  | 26 => ("HorseSignsModel", "lanes", "[I", true)
  | 27 => ("HorseSignsModel", "lengths", "[I", true)
  | 28 => ("HorseSignsModel", "cells", "[I", true)
  | _ => ("HorseSignsModel", "torn", "I", false)
def tyX5 : Nat → FieldType := fun k => match k with
  | 0 => .array .int
  | 1 => .int
  | 2 => .array .int
  | 3 => .int
  | 4 => .int
  | 5 => .boolean
  | 6 => .int
  | 7 => .array .int
  | 8 => .int
  | 9 => .int
  | 10 => .int
  | 11 => .int
  | 12 => .int
  | 13 => .int
  | 14 => .int
  | 15 => .int
  | 16 => .array .int
  | 17 => .array .int
  | 18 => .int
  | 19 => .int
  | 20 => .int
  | 21 => .int
  | 22 => .array .int
  | 23 => .int
  | 24 => .array .int
  | 25 => .array .boolean
  | 26 => .array .int
  | 27 => .array .int
  | 28 => .array .int
  | _ => .int
abbrev wsX50 : List Cond := u_ws RX5 TX5 30
theorem nmX5 : ∀ a, a < 30 → ∀ b, b < 30 → a ≠ b → (TX5 a).2.1 ≠ (TX5 b).2.1 := by decide +kernel
theorem tyX5_ok : ∀ k, k < 30 → parseFieldDescriptor (TX5 k).2.2.1 = some (tyX5 k) := by decide +kernel
abbrev cX5_init : ByteArray := prog_7_method_1_code
def yX5_init : MethodName := ⟨RX5, "<init>", "()V"⟩
abbrev cX5_in : ByteArray := prog_7_method_3_code
def yX5_in : MethodName := ⟨RX5, "in", "(JJJ)Z"⟩
abbrev cX5_feed : ByteArray := prog_7_method_4_code
def yX5_feed : MethodName := ⟨RX5, "feed", "(I)I"⟩
abbrev cX5_end : ByteArray := prog_7_method_5_code
def yX5_end : MethodName := ⟨RX5, "end", "(I)I"⟩
abbrev cX5_byteAt : ByteArray := prog_7_method_6_code
def yX5_byteAt : MethodName := ⟨RX5, "byteAt", "(I)I"⟩
abbrev cX5_fails : ByteArray := prog_7_method_7_code
def yX5_fails : MethodName := ⟨RX5, "fails", "(I)V"⟩
abbrev cX5_nameHere : ByteArray := prog_7_method_8_code
def yX5_nameHere : MethodName := ⟨RX5, "nameHere", "()I"⟩
abbrev cX5_step : ByteArray := prog_7_method_9_code
def yX5_step : MethodName := ⟨RX5, "step", "()V"⟩
abbrev cX5_number : ByteArray := prog_7_method_10_code
def yX5_number : MethodName := ⟨RX5, "number", "(II)I"⟩
abbrev cX5_readTrust : ByteArray := prog_7_method_11_code
def yX5_readTrust : MethodName := ⟨RX5, "readTrust", "()V"⟩
abbrev cX5_readReport : ByteArray := prog_7_method_12_code
def yX5_readReport : MethodName := ⟨RX5, "readReport", "()V"⟩
abbrev cX5_readMore : ByteArray := prog_7_method_13_code
def yX5_readMore : MethodName := ⟨RX5, "readMore", "(I)V"⟩
abbrev cX5_readLine : ByteArray := prog_7_method_14_code
def yX5_readLine : MethodName := ⟨RX5, "readLine", "()V"⟩
abbrev cX5_text : ByteArray := prog_7_method_15_code
def yX5_text : MethodName := ⟨RX5, "text", "()I"⟩
abbrev cX5_fault : ByteArray := prog_7_method_16_code
def yX5_fault : MethodName := ⟨RX5, "fault", "()I"⟩
abbrev cX5_isRider : ByteArray := prog_7_method_17_code
def yX5_isRider : MethodName := ⟨RX5, "isRider", "(I)Z"⟩
abbrev cX5_isReporter : ByteArray := prog_7_method_18_code
def yX5_isReporter : MethodName := ⟨RX5, "isReporter", "(I)Z"⟩
abbrev cX5_isEnd : ByteArray := prog_7_method_19_code
def yX5_isEnd : MethodName := ⟨RX5, "isEnd", "(I)Z"⟩
abbrev cX5_isDay : ByteArray := prog_7_method_20_code
def yX5_isDay : MethodName := ⟨RX5, "isDay", "(I)Z"⟩
abbrev cX5_isReport : ByteArray := prog_7_method_21_code
def yX5_isReport : MethodName := ⟨RX5, "isReport", "(I)Z"⟩
abbrev cX5_legsOf : ByteArray := prog_7_method_22_code
def yX5_legsOf : MethodName := ⟨RX5, "legsOf", "(I)I"⟩
abbrev cX5_readsOf : ByteArray := prog_7_method_23_code
def yX5_readsOf : MethodName := ⟨RX5, "readsOf", "(II)I"⟩
abbrev cX5_readsOn : ByteArray := prog_7_method_24_code
def yX5_readsOn : MethodName := ⟨RX5, "readsOn", "(II)I"⟩
abbrev cX5_isUpright : ByteArray := prog_7_method_25_code
def yX5_isUpright : MethodName := ⟨RX5, "isUpright", "(III)Z"⟩
abbrev cX5_standsOn : ByteArray := prog_7_method_26_code
def yX5_standsOn : MethodName := ⟨RX5, "standsOn", "(II)Z"⟩
abbrev cX5_toldOn : ByteArray := prog_7_method_27_code
def yX5_toldOn : MethodName := ⟨RX5, "toldOn", "(IIII)I"⟩
abbrev cX5_believedOn : ByteArray := prog_7_method_28_code
def yX5_believedOn : MethodName := ⟨RX5, "believedOn", "(III)I"⟩
abbrev cX5_agreesOn : ByteArray := prog_7_method_29_code
def yX5_agreesOn : MethodName := ⟨RX5, "agreesOn", "(II)Z"⟩
abbrev cX5_apart : ByteArray := prog_7_method_30_code
def yX5_apart : MethodName := ⟨RX5, "apart", "(II)I"⟩
abbrev cX5_legOn : ByteArray := prog_7_method_31_code
def yX5_legOn : MethodName := ⟨RX5, "legOn", "(II)I"⟩
abbrev cX5_dayOn : ByteArray := prog_7_method_32_code
def yX5_dayOn : MethodName := ⟨RX5, "dayOn", "(I)V"⟩
abbrev cX5_agreeOn : ByteArray := prog_7_method_33_code
def yX5_agreeOn : MethodName := ⟨RX5, "agreeOn", "(I)I"⟩
abbrev cX5_bitsOf : ByteArray := prog_7_method_34_code
def yX5_bitsOf : MethodName := ⟨RX5, "bitsOf", "(I)I"⟩
abbrev cX5_rule : ByteArray := prog_7_method_35_code
def yX5_rule : MethodName := ⟨RX5, "rule", "(I)I"⟩
abbrev cX5_rider : ByteArray := prog_7_method_36_code
def yX5_rider : MethodName := ⟨RX5, "rider", "(II)I"⟩
abbrev cX5_report : ByteArray := prog_7_method_37_code
def yX5_report : MethodName := ⟨RX5, "report", "(II)I"⟩
abbrev cX5_trust : ByteArray := prog_7_method_38_code
def yX5_trust : MethodName := ⟨RX5, "trust", "(I)I"⟩
abbrev cX5_told : ByteArray := prog_7_method_39_code
def yX5_told : MethodName := ⟨RX5, "told", "(III)I"⟩
abbrev cX5_puts : ByteArray := prog_7_method_40_code
def yX5_puts : MethodName := ⟨RX5, "puts", "(ZIII)I"⟩
abbrev cX5_alter : ByteArray := prog_7_method_41_code
def yX5_alter : MethodName := ⟨RX5, "alter", "(III)I"⟩
abbrev cX5_rely : ByteArray := prog_7_method_42_code
def yX5_rely : MethodName := ⟨RX5, "rely", "(II)I"⟩
abbrev cX5_cast : ByteArray := prog_7_method_43_code
def yX5_cast : MethodName := ⟨RX5, "cast", "(I)I"⟩
abbrev cX5_sends : ByteArray := prog_7_method_44_code
def yX5_sends : MethodName := ⟨RX5, "sends", "(IIII)I"⟩
abbrev cX5_send : ByteArray := prog_7_method_45_code
def yX5_send : MethodName := ⟨RX5, "send", "(IIII)I"⟩
abbrev cX5_burn : ByteArray := prog_7_method_46_code
def yX5_burn : MethodName := ⟨RX5, "burn", "(I)I"⟩
abbrev cX5_days : ByteArray := prog_7_method_47_code
def yX5_days : MethodName := ⟨RX5, "days", "(I)I"⟩
abbrev cX5_copies : ByteArray := prog_7_method_48_code
def yX5_copies : MethodName := ⟨RX5, "copies", "(II)V"⟩
abbrev cX5_daysGo : ByteArray := prog_7_method_49_code
def yX5_daysGo : MethodName := ⟨RX5, "daysGo", "(II)I"⟩
abbrev cX5_runs : ByteArray := prog_7_method_50_code
def yX5_runs : MethodName := ⟨RX5, "runs", "(II)I"⟩
abbrev cX5_ahead : ByteArray := prog_7_method_51_code
def yX5_ahead : MethodName := ⟨RX5, "ahead", "(III)I"⟩
abbrev cX5_believed : ByteArray := prog_7_method_52_code
def yX5_believed : MethodName := ⟨RX5, "believed", "(II)I"⟩
abbrev cX5_agrees : ByteArray := prog_7_method_53_code
def yX5_agrees : MethodName := ⟨RX5, "agrees", "(I)I"⟩
abbrev cX5_pose : ByteArray := prog_7_method_54_code
def yX5_pose : MethodName := ⟨RX5, "pose", "(II)I"⟩
abbrev cX5_heavy : ByteArray := prog_7_method_55_code
def yX5_heavy : MethodName := ⟨RX5, "heavy", "(II)I"⟩
abbrev cX5_need : ByteArray := prog_7_method_56_code
def yX5_need : MethodName := ⟨RX5, "need", "()I"⟩
abbrev cX5_liar : ByteArray := prog_7_method_57_code
def yX5_liar : MethodName := ⟨RX5, "liar", "(II)I"⟩
abbrev cX5_agreeBehind : ByteArray := prog_7_method_58_code
def yX5_agreeBehind : MethodName := ⟨RX5, "agreeBehind", "(II)I"⟩
abbrev cX5_lose : ByteArray := prog_7_method_59_code
def yX5_lose : MethodName := ⟨RX5, "lose", "(II)I"⟩
abbrev cX5_swap : ByteArray := prog_7_method_60_code
def yX5_swap : MethodName := ⟨RX5, "swap", "(II)I"⟩
abbrev cX5_gain : ByteArray := prog_7_method_61_code
def yX5_gain : MethodName := ⟨RX5, "gain", "(IIII)I"⟩
abbrev cX5_kind : ByteArray := prog_7_method_62_code
def yX5_kind : MethodName := ⟨RX5, "kind", "(III)I"⟩
abbrev cX5_lowest : ByteArray := prog_7_method_63_code
def yX5_lowest : MethodName := ⟨RX5, "lowest", "(JJI)J"⟩
abbrev cX5_byFalse : ByteArray := prog_7_method_64_code
def yX5_byFalse : MethodName := ⟨RX5, "byFalse", "(IIIII)J"⟩
abbrev cX5_luck : ByteArray := prog_7_method_65_code
def yX5_luck : MethodName := ⟨RX5, "luck", "(IIIII)J"⟩
abbrev cX5_mean : ByteArray := prog_7_method_66_code
def yX5_mean : MethodName := ⟨RX5, "mean", "(III)J"⟩
abbrev cX5_see : ByteArray := prog_7_method_67_code
def yX5_see : MethodName := ⟨RX5, "see", "(III)I"⟩
abbrev cX5_forget : ByteArray := prog_7_method_68_code
def yX5_forget : MethodName := ⟨RX5, "forget", "(I)I"⟩
abbrev cX5_isAsSeen : ByteArray := prog_7_method_69_code
def yX5_isAsSeen : MethodName := ⟨RX5, "isAsSeen", "(I)Z"⟩
abbrev cX5_kinds : ByteArray := prog_7_method_70_code
def yX5_kinds : MethodName := ⟨RX5, "kinds", "(I)I"⟩
abbrev cX5_upsOf : ByteArray := prog_7_method_71_code
def yX5_upsOf : MethodName := ⟨RX5, "upsOf", "(I)I"⟩
abbrev cX5_ups : ByteArray := prog_7_method_72_code
def yX5_ups : MethodName := ⟨RX5, "ups", "(I)I"⟩
abbrev cX5_worstAt : ByteArray := prog_7_method_73_code
def yX5_worstAt : MethodName := ⟨RX5, "worstAt", "(II)I"⟩
abbrev cX5_ask : ByteArray := prog_7_method_74_code
def yX5_ask : MethodName := ⟨RX5, "ask", "(II)I"⟩
abbrev cX5_drift : ByteArray := prog_7_method_75_code
def yX5_drift : MethodName := ⟨RX5, "drift", "(III)I"⟩
abbrev cX5_keep : ByteArray := prog_7_method_76_code
def yX5_keep : MethodName := ⟨RX5, "keep", "(I)I"⟩
abbrev cX5_back : ByteArray := prog_7_method_77_code
def yX5_back : MethodName := ⟨RX5, "back", "(I)I"⟩
abbrev cX5_sheet : ByteArray := prog_7_method_78_code
def yX5_sheet : MethodName := ⟨RX5, "sheet", "(III)I"⟩
abbrev cX5_lay : ByteArray := prog_7_method_79_code
def yX5_lay : MethodName := ⟨RX5, "lay", "(III)I"⟩
abbrev cX5_read : ByteArray := prog_7_method_80_code
def yX5_read : MethodName := ⟨RX5, "read", "(IIII)I"⟩
abbrev cX5_torn : ByteArray := prog_7_method_81_code
def yX5_torn : MethodName := ⟨RX5, "torn", "()I"⟩
abbrev cX5_count : ByteArray := prog_7_method_82_code
def yX5_count : MethodName := ⟨RX5, "count", "(I)I"⟩
def RJx145de : String := "java/io/Serializable"
def TJx145de : u_T := fun k => match k with
  | _ => ("", "", "", false)
def tyJx145de : Nat → FieldType := fun k => match k with
  | _ => .int
abbrev wsJx145de0 : List Cond := u_ws RJx145de TJx145de 0
theorem nmJx145de : ∀ a, a < 0 → ∀ b, b < 0 → a ≠ b → (TJx145de a).2.1 ≠ (TJx145de b).2.1 := by decide +kernel
theorem tyJx145de_ok : ∀ k, k < 0 → parseFieldDescriptor (TJx145de k).2.2.1 = some (tyJx145de k) := by decide +kernel
def RJx9f9b0 : String := "java/lang/CharSequence"
def TJx9f9b0 : u_T := fun k => match k with
  | _ => ("", "", "", false)
def tyJx9f9b0 : Nat → FieldType := fun k => match k with
  | _ => .int
abbrev wsJx9f9b00 : List Cond := u_ws RJx9f9b0 TJx9f9b0 0
theorem nmJx9f9b0 : ∀ a, a < 0 → ∀ b, b < 0 → a ≠ b → (TJx9f9b0 a).2.1 ≠ (TJx9f9b0 b).2.1 := by decide +kernel
theorem tyJx9f9b0_ok : ∀ k, k < 0 → parseFieldDescriptor (TJx9f9b0 k).2.2.1 = some (tyJx9f9b0 k) := by decide +kernel
def RJxb160c : String := "java/lang/Comparable"
def TJxb160c : u_T := fun k => match k with
  | _ => ("", "", "", false)
def tyJxb160c : Nat → FieldType := fun k => match k with
  | _ => .int
abbrev wsJxb160c0 : List Cond := u_ws RJxb160c TJxb160c 0
theorem nmJxb160c : ∀ a, a < 0 → ∀ b, b < 0 → a ≠ b → (TJxb160c a).2.1 ≠ (TJxb160c b).2.1 := by decide +kernel
theorem tyJxb160c_ok : ∀ k, k < 0 → parseFieldDescriptor (TJxb160c k).2.2.1 = some (tyJxb160c k) := by decide +kernel
def RJ6 : String := "java/lang/Integer"
def TJ6 : u_T := fun k => match k with
  | _ => ("", "", "", false)
def tyJ6 : Nat → FieldType := fun k => match k with
  | _ => .int
abbrev wsJ60 : List Cond := u_ws RJ6 TJ6 0
theorem nmJ6 : ∀ a, a < 0 → ∀ b, b < 0 → a ≠ b → (TJ6 a).2.1 ≠ (TJ6 b).2.1 := by decide +kernel
theorem tyJ6_ok : ∀ k, k < 0 → parseFieldDescriptor (TJ6 k).2.2.1 = some (tyJ6 k) := by decide +kernel
abbrev cJ6_bitCount_0f7a4 : ByteArray := prog_8_method_49_code
def yJ6_bitCount_0f7a4 : MethodName := ⟨RJ6, "bitCount", "(I)I"⟩
def RJ9 : String := "java/lang/Math"
def TJ9 : u_T := fun k => match k with
  | _ => ("", "", "", false)
def tyJ9 : Nat → FieldType := fun k => match k with
  | _ => .int
abbrev wsJ90 : List Cond := u_ws RJ9 TJ9 0
theorem nmJ9 : ∀ a, a < 0 → ∀ b, b < 0 → a ≠ b → (TJ9 a).2.1 ≠ (TJ9 b).2.1 := by decide +kernel
theorem tyJ9_ok : ∀ k, k < 0 → parseFieldDescriptor (TJ9 k).2.2.1 = some (tyJ9 k) := by decide +kernel
abbrev cJ9_abs_0f7a4 : ByteArray := prog_9_method_59_code
def yJ9_abs_0f7a4 : MethodName := ⟨RJ9, "abs", "(I)I"⟩
abbrev cJ9_max_7cf53 : ByteArray := prog_9_method_65_code
def yJ9_max_7cf53 : MethodName := ⟨RJ9, "max", "(II)I"⟩
abbrev cJ9_min_7cf53 : ByteArray := prog_9_method_69_code
def yJ9_min_7cf53 : MethodName := ⟨RJ9, "min", "(II)I"⟩
def RJ0 : String := "java/lang/String"
def TJ0 : u_T := fun k => match k with
  | _ => ("", "", "", false)
def tyJ0 : Nat → FieldType := fun k => match k with
  | _ => .int
abbrev wsJ00 : List Cond := u_ws RJ0 TJ0 0
theorem nmJ0 : ∀ a, a < 0 → ∀ b, b < 0 → a ≠ b → (TJ0 a).2.1 ≠ (TJ0 b).2.1 := by decide +kernel
theorem tyJ0_ok : ∀ k, k < 0 → parseFieldDescriptor (TJ0 k).2.2.1 = some (tyJ0 k) := by decide +kernel
abbrev cJ0_length_8abf5 : ByteArray := prog_10_method_54_code
def yJ0_length_8abf5 : MethodName := ⟨RJ0, "length", "()I"⟩
abbrev cJ0_charAt_5068e : ByteArray := prog_10_method_56_code
def yJ0_charAt_5068e : MethodName := ⟨RJ0, "charAt", "(I)C"⟩
abbrev cJ0_coder_7d493 : ByteArray := prog_10_method_152_code
def yJ0_coder_7d493 : MethodName := ⟨RJ0, "coder", "()B"⟩
abbrev cJ0_isLatin1_aae02 : ByteArray := prog_10_method_154_code
def yJ0_isLatin1_aae02 : MethodName := ⟨RJ0, "isLatin1", "()Z"⟩
abbrev cJ0_checkIndex_df160 : ByteArray := prog_10_method_155_code
def yJ0_checkIndex_df160 : MethodName := ⟨RJ0, "checkIndex", "(II)V"⟩
def RJ1 : String := "java/lang/StringLatin1"
def TJ1 : u_T := fun k => match k with
  | _ => ("", "", "", false)
def tyJ1 : Nat → FieldType := fun k => match k with
  | _ => .int
abbrev wsJ10 : List Cond := u_ws RJ1 TJ1 0
theorem nmJ1 : ∀ a, a < 0 → ∀ b, b < 0 → a ≠ b → (TJ1 a).2.1 ≠ (TJ1 b).2.1 := by decide +kernel
theorem tyJ1_ok : ∀ k, k < 0 → parseFieldDescriptor (TJ1 k).2.2.1 = some (tyJ1 k) := by decide +kernel
abbrev cJ1_charAt_3b067 : ByteArray := prog_11_method_2_code
def yJ1_charAt_3b067 : MethodName := ⟨RJ1, "charAt", "([BI)C"⟩
def RJ2 : String := "java/lang/StringUTF16"
def TJ2 : u_T := fun k => match k with
  | _ => ("", "", "", false)
def tyJ2 : Nat → FieldType := fun k => match k with
  | _ => .int
abbrev wsJ20 : List Cond := u_ws RJ2 TJ2 0
theorem nmJ2 : ∀ a, a < 0 → ∀ b, b < 0 → a ≠ b → (TJ2 a).2.1 ≠ (TJ2 b).2.1 := by decide +kernel
theorem tyJ2_ok : ∀ k, k < 0 → parseFieldDescriptor (TJ2 k).2.2.1 = some (tyJ2 k) := by decide +kernel
abbrev cJ2_getChar_3b067 : ByteArray := prog_12_method_5_code
def yJ2_getChar_3b067 : MethodName := ⟨RJ2, "getChar", "([BI)C"⟩
abbrev cJ2_length_9d52b : ByteArray := prog_12_method_6_code
def yJ2_length_9d52b : MethodName := ⟨RJ2, "length", "([B)I"⟩
abbrev cJ2_charAt_3b067 : ByteArray := prog_12_method_83_code
def yJ2_charAt_3b067 : MethodName := ⟨RJ2, "charAt", "([BI)C"⟩
abbrev cJ2_checkIndex_2214a : ByteArray := prog_12_method_91_code
def yJ2_checkIndex_2214a : MethodName := ⟨RJ2, "checkIndex", "(I[B)V"⟩
def RJ10 : String := "java/lang/System"
def TJ10 : u_T := fun k => match k with
  | _ => ("", "", "", false)
def tyJ10 : Nat → FieldType := fun k => match k with
  | _ => .int
abbrev wsJ100 : List Cond := u_ws RJ10 TJ10 0
theorem nmJ10 : ∀ a, a < 0 → ∀ b, b < 0 → a ≠ b → (TJ10 a).2.1 ≠ (TJ10 b).2.1 := by decide +kernel
theorem tyJ10_ok : ∀ k, k < 0 → parseFieldDescriptor (TJ10 k).2.2.1 = some (tyJ10 k) := by decide +kernel
def RJxfd54e : String := "java/lang/constant/Constable"
def TJxfd54e : u_T := fun k => match k with
  | _ => ("", "", "", false)
def tyJxfd54e : Nat → FieldType := fun k => match k with
  | _ => .int
abbrev wsJxfd54e0 : List Cond := u_ws RJxfd54e TJxfd54e 0
theorem nmJxfd54e : ∀ a, a < 0 → ∀ b, b < 0 → a ≠ b → (TJxfd54e a).2.1 ≠ (TJxfd54e b).2.1 := by decide +kernel
theorem tyJxfd54e_ok : ∀ k, k < 0 → parseFieldDescriptor (TJxfd54e k).2.2.1 = some (tyJxfd54e k) := by decide +kernel
def RJx3cf43 : String := "java/lang/constant/ConstantDesc"
def TJx3cf43 : u_T := fun k => match k with
  | _ => ("", "", "", false)
def tyJx3cf43 : Nat → FieldType := fun k => match k with
  | _ => .int
abbrev wsJx3cf430 : List Cond := u_ws RJx3cf43 TJx3cf43 0
theorem nmJx3cf43 : ∀ a, a < 0 → ∀ b, b < 0 → a ≠ b → (TJx3cf43 a).2.1 ≠ (TJx3cf43 b).2.1 := by decide +kernel
theorem tyJx3cf43_ok : ∀ k, k < 0 → parseFieldDescriptor (TJx3cf43 k).2.2.1 = some (tyJx3cf43 k) := by decide +kernel
def RJ7 : String := "java/util/Arrays"
def TJ7 : u_T := fun k => match k with
  | _ => ("", "", "", false)
def tyJ7 : Nat → FieldType := fun k => match k with
  | _ => .int
abbrev wsJ70 : List Cond := u_ws RJ7 TJ7 0
theorem nmJ7 : ∀ a, a < 0 → ∀ b, b < 0 → a ≠ b → (TJ7 a).2.1 ≠ (TJ7 b).2.1 := by decide +kernel
theorem tyJ7_ok : ∀ k, k < 0 → parseFieldDescriptor (TJ7 k).2.2.1 = some (tyJ7 k) := by decide +kernel
abbrev cJ7_fill_53178 : ByteArray := prog_14_method_103_code
def yJ7_fill_53178 : MethodName := ⟨RJ7, "fill", "([II)V"⟩
def RJ3 : String := "jdk/internal/util/Preconditions"
def TJ3 : u_T := fun k => match k with
  | _ => ("", "", "", false)
def tyJ3 : Nat → FieldType := fun k => match k with
  | _ => .int
abbrev wsJ30 : List Cond := u_ws RJ3 TJ3 0
theorem nmJ3 : ∀ a, a < 0 → ∀ b, b < 0 → a ≠ b → (TJ3 a).2.1 ≠ (TJ3 b).2.1 := by decide +kernel
theorem tyJ3_ok : ∀ k, k < 0 → parseFieldDescriptor (TJ3 k).2.2.1 = some (tyJ3 k) := by decide +kernel
abbrev cJ3_checkIndex_8e157 : ByteArray := prog_15_method_11_code
def yJ3_checkIndex_8e157 : MethodName := ⟨RJ3, "checkIndex", "(IILjava/util/function/BiFunction;)I"⟩
def RL : String := "HorseSignsLaw"
abbrev cL_law : ByteArray := code
def yL_law : MethodName := ⟨RL, "law", "([I)Z"⟩
abbrev vwCl : List vw_C := [(RX0, TX0, 3), (RX1, TX1, 4), (RX2, TX2, 15), (RX3, TX3, 10), (RX4, TX4, 10), (RX5, TX5, 30)]
end
section
theorem dJ6_bitCount_0f7a4_0 : decode cJ6_bitCount_0f7a4 0 = .ok (.iload_n 0, 1) := by decide +kernel
theorem dJ6_bitCount_0f7a4_1 : decode cJ6_bitCount_0f7a4 1 = .ok (.iload_n 0, 1) := by decide +kernel
theorem dJ6_bitCount_0f7a4_2 : decode cJ6_bitCount_0f7a4 2 = .ok (.iconst 1, 1) := by decide +kernel
theorem dJ6_bitCount_0f7a4_3 : decode cJ6_bitCount_0f7a4 3 = .ok (.iushr, 1) := by decide +kernel
theorem dJ6_bitCount_0f7a4_4 : decode cJ6_bitCount_0f7a4 4 = .ok (.ldc_w 265, 3) := by decide +kernel
theorem dJ6_bitCount_0f7a4_7 : decode cJ6_bitCount_0f7a4 7 = .ok (.iand, 1) := by decide +kernel
theorem dJ6_bitCount_0f7a4_8 : decode cJ6_bitCount_0f7a4 8 = .ok (.isub, 1) := by decide +kernel
theorem dJ6_bitCount_0f7a4_9 : decode cJ6_bitCount_0f7a4 9 = .ok (.istore_n 0, 1) := by decide +kernel
theorem dJ6_bitCount_0f7a4_10 : decode cJ6_bitCount_0f7a4 10 = .ok (.iload_n 0, 1) := by decide +kernel
theorem dJ6_bitCount_0f7a4_11 : decode cJ6_bitCount_0f7a4 11 = .ok (.ldc_w 266, 3) := by decide +kernel
theorem dJ6_bitCount_0f7a4_14 : decode cJ6_bitCount_0f7a4 14 = .ok (.iand, 1) := by decide +kernel
theorem dJ6_bitCount_0f7a4_15 : decode cJ6_bitCount_0f7a4 15 = .ok (.iload_n 0, 1) := by decide +kernel
theorem dJ6_bitCount_0f7a4_16 : decode cJ6_bitCount_0f7a4 16 = .ok (.iconst 2, 1) := by decide +kernel
theorem dJ6_bitCount_0f7a4_17 : decode cJ6_bitCount_0f7a4 17 = .ok (.iushr, 1) := by decide +kernel
theorem dJ6_bitCount_0f7a4_18 : decode cJ6_bitCount_0f7a4 18 = .ok (.ldc_w 266, 3) := by decide +kernel
theorem dJ6_bitCount_0f7a4_21 : decode cJ6_bitCount_0f7a4 21 = .ok (.iand, 1) := by decide +kernel
theorem dJ6_bitCount_0f7a4_22 : decode cJ6_bitCount_0f7a4 22 = .ok (.iadd, 1) := by decide +kernel
theorem dJ6_bitCount_0f7a4_23 : decode cJ6_bitCount_0f7a4 23 = .ok (.istore_n 0, 1) := by decide +kernel
theorem dJ6_bitCount_0f7a4_24 : decode cJ6_bitCount_0f7a4 24 = .ok (.iload_n 0, 1) := by decide +kernel
theorem dJ6_bitCount_0f7a4_25 : decode cJ6_bitCount_0f7a4 25 = .ok (.iload_n 0, 1) := by decide +kernel
theorem dJ6_bitCount_0f7a4_26 : decode cJ6_bitCount_0f7a4 26 = .ok (.iconst 4, 1) := by decide +kernel
theorem dJ6_bitCount_0f7a4_27 : decode cJ6_bitCount_0f7a4 27 = .ok (.iushr, 1) := by decide +kernel
theorem dJ6_bitCount_0f7a4_28 : decode cJ6_bitCount_0f7a4 28 = .ok (.iadd, 1) := by decide +kernel
theorem dJ6_bitCount_0f7a4_29 : decode cJ6_bitCount_0f7a4 29 = .ok (.ldc_w 267, 3) := by decide +kernel
theorem dJ6_bitCount_0f7a4_32 : decode cJ6_bitCount_0f7a4 32 = .ok (.iand, 1) := by decide +kernel
theorem dJ6_bitCount_0f7a4_33 : decode cJ6_bitCount_0f7a4 33 = .ok (.istore_n 0, 1) := by decide +kernel
theorem dJ6_bitCount_0f7a4_34 : decode cJ6_bitCount_0f7a4 34 = .ok (.iload_n 0, 1) := by decide +kernel
theorem dJ6_bitCount_0f7a4_35 : decode cJ6_bitCount_0f7a4 35 = .ok (.iload_n 0, 1) := by decide +kernel
theorem dJ6_bitCount_0f7a4_36 : decode cJ6_bitCount_0f7a4 36 = .ok (.bipush 8, 2) := by decide +kernel
theorem dJ6_bitCount_0f7a4_38 : decode cJ6_bitCount_0f7a4 38 = .ok (.iushr, 1) := by decide +kernel
theorem dJ6_bitCount_0f7a4_39 : decode cJ6_bitCount_0f7a4 39 = .ok (.iadd, 1) := by decide +kernel
theorem dJ6_bitCount_0f7a4_40 : decode cJ6_bitCount_0f7a4 40 = .ok (.istore_n 0, 1) := by decide +kernel
theorem dJ6_bitCount_0f7a4_41 : decode cJ6_bitCount_0f7a4 41 = .ok (.iload_n 0, 1) := by decide +kernel
theorem dJ6_bitCount_0f7a4_42 : decode cJ6_bitCount_0f7a4 42 = .ok (.iload_n 0, 1) := by decide +kernel
theorem dJ6_bitCount_0f7a4_43 : decode cJ6_bitCount_0f7a4 43 = .ok (.bipush 16, 2) := by decide +kernel
theorem dJ6_bitCount_0f7a4_45 : decode cJ6_bitCount_0f7a4 45 = .ok (.iushr, 1) := by decide +kernel
theorem dJ6_bitCount_0f7a4_46 : decode cJ6_bitCount_0f7a4 46 = .ok (.iadd, 1) := by decide +kernel
theorem dJ6_bitCount_0f7a4_47 : decode cJ6_bitCount_0f7a4 47 = .ok (.istore_n 0, 1) := by decide +kernel
theorem dJ6_bitCount_0f7a4_48 : decode cJ6_bitCount_0f7a4 48 = .ok (.iload_n 0, 1) := by decide +kernel
theorem dJ6_bitCount_0f7a4_49 : decode cJ6_bitCount_0f7a4 49 = .ok (.bipush 63, 2) := by decide +kernel
theorem dJ6_bitCount_0f7a4_51 : decode cJ6_bitCount_0f7a4 51 = .ok (.iand, 1) := by decide +kernel
theorem dJ6_bitCount_0f7a4_52 : decode cJ6_bitCount_0f7a4 52 = .ok (.ireturn, 1) := by decide +kernel
theorem dJ9_abs_0f7a4_0 : decode cJ9_abs_0f7a4 0 = .ok (.iload_n 0, 1) := by decide +kernel
theorem dJ9_abs_0f7a4_1 : decode cJ9_abs_0f7a4 1 = .ok (.ifCond .ge 8, 3) := by decide +kernel
theorem dJ9_abs_0f7a4_4 : decode cJ9_abs_0f7a4 4 = .ok (.iload_n 0, 1) := by decide +kernel
theorem dJ9_abs_0f7a4_5 : decode cJ9_abs_0f7a4 5 = .ok (.ineg, 1) := by decide +kernel
theorem dJ9_abs_0f7a4_6 : decode cJ9_abs_0f7a4 6 = .ok (.goto 4, 3) := by decide +kernel
theorem dJ9_abs_0f7a4_9 : decode cJ9_abs_0f7a4 9 = .ok (.iload_n 0, 1) := by decide +kernel
theorem dJ9_abs_0f7a4_10 : decode cJ9_abs_0f7a4 10 = .ok (.ireturn, 1) := by decide +kernel
theorem dJ9_max_7cf53_0 : decode cJ9_max_7cf53 0 = .ok (.iload_n 0, 1) := by decide +kernel
theorem dJ9_max_7cf53_1 : decode cJ9_max_7cf53 1 = .ok (.iload_n 1, 1) := by decide +kernel
theorem dJ9_max_7cf53_2 : decode cJ9_max_7cf53 2 = .ok (.if_icmp .lt 7, 3) := by decide +kernel
theorem dJ9_max_7cf53_5 : decode cJ9_max_7cf53 5 = .ok (.iload_n 0, 1) := by decide +kernel
theorem dJ9_max_7cf53_6 : decode cJ9_max_7cf53 6 = .ok (.goto 4, 3) := by decide +kernel
theorem dJ9_max_7cf53_9 : decode cJ9_max_7cf53 9 = .ok (.iload_n 1, 1) := by decide +kernel
theorem dJ9_max_7cf53_10 : decode cJ9_max_7cf53 10 = .ok (.ireturn, 1) := by decide +kernel
theorem dJ9_min_7cf53_0 : decode cJ9_min_7cf53 0 = .ok (.iload_n 0, 1) := by decide +kernel
theorem dJ9_min_7cf53_1 : decode cJ9_min_7cf53 1 = .ok (.iload_n 1, 1) := by decide +kernel
theorem dJ9_min_7cf53_2 : decode cJ9_min_7cf53 2 = .ok (.if_icmp .gt 7, 3) := by decide +kernel
theorem dJ9_min_7cf53_5 : decode cJ9_min_7cf53 5 = .ok (.iload_n 0, 1) := by decide +kernel
theorem dJ9_min_7cf53_6 : decode cJ9_min_7cf53 6 = .ok (.goto 4, 3) := by decide +kernel
theorem dJ9_min_7cf53_9 : decode cJ9_min_7cf53 9 = .ok (.iload_n 1, 1) := by decide +kernel
theorem dJ9_min_7cf53_10 : decode cJ9_min_7cf53 10 = .ok (.ireturn, 1) := by decide +kernel
theorem dJ0_length_8abf5_0 : decode cJ0_length_8abf5 0 = .ok (.aload_n 0, 1) := by decide +kernel
theorem dJ0_length_8abf5_1 : decode cJ0_length_8abf5 1 = .ok (.getfield 9, 3) := by decide +kernel
theorem dJ0_length_8abf5_4 : decode cJ0_length_8abf5 4 = .ok (.arraylength, 1) := by decide +kernel
theorem dJ0_length_8abf5_5 : decode cJ0_length_8abf5 5 = .ok (.aload_n 0, 1) := by decide +kernel
theorem dJ0_length_8abf5_6 : decode cJ0_length_8abf5 6 = .ok (.invokevirtual 335, 3) := by decide +kernel
theorem dJ0_length_8abf5_9 : decode cJ0_length_8abf5 9 = .ok (.ishr, 1) := by decide +kernel
theorem dJ0_length_8abf5_10 : decode cJ0_length_8abf5 10 = .ok (.ireturn, 1) := by decide +kernel
theorem dJ0_charAt_5068e_0 : decode cJ0_charAt_5068e 0 = .ok (.aload_n 0, 1) := by decide +kernel
theorem dJ0_charAt_5068e_1 : decode cJ0_charAt_5068e 1 = .ok (.invokevirtual 492, 3) := by decide +kernel
theorem dJ0_charAt_5068e_4 : decode cJ0_charAt_5068e 4 = .ok (.ifCond .eq 12, 3) := by decide +kernel
theorem dJ0_charAt_5068e_7 : decode cJ0_charAt_5068e 7 = .ok (.aload_n 0, 1) := by decide +kernel
theorem dJ0_charAt_5068e_8 : decode cJ0_charAt_5068e 8 = .ok (.getfield 9, 3) := by decide +kernel
theorem dJ0_charAt_5068e_11 : decode cJ0_charAt_5068e 11 = .ok (.iload_n 1, 1) := by decide +kernel
theorem dJ0_charAt_5068e_12 : decode cJ0_charAt_5068e 12 = .ok (.invokestatic 495, 3) := by decide +kernel
theorem dJ0_charAt_5068e_15 : decode cJ0_charAt_5068e 15 = .ok (.ireturn, 1) := by decide +kernel
theorem dJ0_charAt_5068e_16 : decode cJ0_charAt_5068e 16 = .ok (.aload_n 0, 1) := by decide +kernel
theorem dJ0_charAt_5068e_17 : decode cJ0_charAt_5068e 17 = .ok (.getfield 9, 3) := by decide +kernel
theorem dJ0_charAt_5068e_20 : decode cJ0_charAt_5068e 20 = .ok (.iload_n 1, 1) := by decide +kernel
theorem dJ0_charAt_5068e_21 : decode cJ0_charAt_5068e 21 = .ok (.invokestatic 498, 3) := by decide +kernel
theorem dJ0_charAt_5068e_24 : decode cJ0_charAt_5068e 24 = .ok (.ireturn, 1) := by decide +kernel
theorem dJ0_coder_7d493_0 : decode cJ0_coder_7d493 0 = .ok (.getstatic 38, 3) := by decide +kernel
theorem dJ0_coder_7d493_3 : decode cJ0_coder_7d493 3 = .ok (.ifCond .eq 10, 3) := by decide +kernel
theorem dJ0_coder_7d493_6 : decode cJ0_coder_7d493 6 = .ok (.aload_n 0, 1) := by decide +kernel
theorem dJ0_coder_7d493_7 : decode cJ0_coder_7d493 7 = .ok (.getfield 15, 3) := by decide +kernel
theorem dJ0_coder_7d493_10 : decode cJ0_coder_7d493 10 = .ok (.goto 4, 3) := by decide +kernel
theorem dJ0_coder_7d493_13 : decode cJ0_coder_7d493 13 = .ok (.iconst 1, 1) := by decide +kernel
theorem dJ0_coder_7d493_14 : decode cJ0_coder_7d493 14 = .ok (.ireturn, 1) := by decide +kernel
theorem dJ0_isLatin1_aae02_0 : decode cJ0_isLatin1_aae02 0 = .ok (.getstatic 38, 3) := by decide +kernel
theorem dJ0_isLatin1_aae02_3 : decode cJ0_isLatin1_aae02 3 = .ok (.ifCond .eq 14, 3) := by decide +kernel
theorem dJ0_isLatin1_aae02_6 : decode cJ0_isLatin1_aae02 6 = .ok (.aload_n 0, 1) := by decide +kernel
theorem dJ0_isLatin1_aae02_7 : decode cJ0_isLatin1_aae02 7 = .ok (.getfield 15, 3) := by decide +kernel
theorem dJ0_isLatin1_aae02_10 : decode cJ0_isLatin1_aae02 10 = .ok (.ifCond .ne 7, 3) := by decide +kernel
theorem dJ0_isLatin1_aae02_13 : decode cJ0_isLatin1_aae02 13 = .ok (.iconst 1, 1) := by decide +kernel
theorem dJ0_isLatin1_aae02_14 : decode cJ0_isLatin1_aae02 14 = .ok (.goto 4, 3) := by decide +kernel
theorem dJ0_isLatin1_aae02_17 : decode cJ0_isLatin1_aae02 17 = .ok (.iconst 0, 1) := by decide +kernel
theorem dJ0_isLatin1_aae02_18 : decode cJ0_isLatin1_aae02 18 = .ok (.ireturn, 1) := by decide +kernel
theorem dJ0_checkIndex_df160_0 : decode cJ0_checkIndex_df160 0 = .ok (.iload_n 0, 1) := by decide +kernel
theorem dJ0_checkIndex_df160_1 : decode cJ0_checkIndex_df160 1 = .ok (.iload_n 1, 1) := by decide +kernel
theorem dJ0_checkIndex_df160_2 : decode cJ0_checkIndex_df160 2 = .ok (.getstatic 1053, 3) := by decide +kernel
theorem dJ0_checkIndex_df160_5 : decode cJ0_checkIndex_df160 5 = .ok (.invokestatic 1059, 3) := by decide +kernel
theorem dJ0_checkIndex_df160_8 : decode cJ0_checkIndex_df160 8 = .ok (.pop, 1) := by decide +kernel
theorem dJ0_checkIndex_df160_9 : decode cJ0_checkIndex_df160 9 = .ok (.return_, 1) := by decide +kernel
theorem dJ1_charAt_3b067_0 : decode cJ1_charAt_3b067 0 = .ok (.iload_n 1, 1) := by decide +kernel
theorem dJ1_charAt_3b067_1 : decode cJ1_charAt_3b067 1 = .ok (.aload_n 0, 1) := by decide +kernel
theorem dJ1_charAt_3b067_2 : decode cJ1_charAt_3b067 2 = .ok (.arraylength, 1) := by decide +kernel
theorem dJ1_charAt_3b067_3 : decode cJ1_charAt_3b067 3 = .ok (.invokestatic 9, 3) := by decide +kernel
theorem dJ1_charAt_3b067_6 : decode cJ1_charAt_3b067 6 = .ok (.aload_n 0, 1) := by decide +kernel
theorem dJ1_charAt_3b067_7 : decode cJ1_charAt_3b067 7 = .ok (.iload_n 1, 1) := by decide +kernel
theorem dJ1_charAt_3b067_8 : decode cJ1_charAt_3b067 8 = .ok (.baload, 1) := by decide +kernel
theorem dJ1_charAt_3b067_9 : decode cJ1_charAt_3b067 9 = .ok (.sipush 255, 3) := by decide +kernel
theorem dJ1_charAt_3b067_12 : decode cJ1_charAt_3b067 12 = .ok (.iand, 1) := by decide +kernel
theorem dJ1_charAt_3b067_13 : decode cJ1_charAt_3b067 13 = .ok (.i2c, 1) := by decide +kernel
theorem dJ1_charAt_3b067_14 : decode cJ1_charAt_3b067 14 = .ok (.ireturn, 1) := by decide +kernel
theorem dJ2_getChar_3b067_0 : decode cJ2_getChar_3b067 0 = .ok (.getstatic 44, 3) := by decide +kernel
theorem dJ2_getChar_3b067_3 : decode cJ2_getChar_3b067 3 = .ok (.ifCond .ne 25, 3) := by decide +kernel
theorem dJ2_getChar_3b067_6 : decode cJ2_getChar_3b067 6 = .ok (.iload_n 1, 1) := by decide +kernel
theorem dJ2_getChar_3b067_7 : decode cJ2_getChar_3b067 7 = .ok (.ifCond .lt 11, 3) := by decide +kernel
theorem dJ2_getChar_3b067_10 : decode cJ2_getChar_3b067 10 = .ok (.iload_n 1, 1) := by decide +kernel
theorem dJ2_getChar_3b067_11 : decode cJ2_getChar_3b067 11 = .ok (.aload_n 0, 1) := by decide +kernel
theorem dJ2_getChar_3b067_12 : decode cJ2_getChar_3b067 12 = .ok (.invokestatic 48, 3) := by decide +kernel
theorem dJ2_getChar_3b067_15 : decode cJ2_getChar_3b067 15 = .ok (.if_icmp .lt 13, 3) := by decide +kernel
theorem dJ2_getChar_3b067_18 : decode cJ2_getChar_3b067 18 = .ok (.new 52, 3) := by decide +kernel
theorem dJ2_getChar_3b067_21 : decode cJ2_getChar_3b067 21 = .ok (.dup, 1) := by decide +kernel
theorem dJ2_getChar_3b067_22 : decode cJ2_getChar_3b067 22 = .ok (.ldc 54, 2) := by decide +kernel
theorem dJ2_getChar_3b067_24 : decode cJ2_getChar_3b067 24 = .ok (.invokespecial 56, 3) := by decide +kernel
theorem dJ2_getChar_3b067_27 : decode cJ2_getChar_3b067 27 = .ok (.athrow, 1) := by decide +kernel
theorem dJ2_getChar_3b067_28 : decode cJ2_getChar_3b067 28 = .ok (.iload_n 1, 1) := by decide +kernel
theorem dJ2_getChar_3b067_29 : decode cJ2_getChar_3b067 29 = .ok (.iconst 1, 1) := by decide +kernel
theorem dJ2_getChar_3b067_30 : decode cJ2_getChar_3b067 30 = .ok (.ishl, 1) := by decide +kernel
theorem dJ2_getChar_3b067_31 : decode cJ2_getChar_3b067 31 = .ok (.istore_n 1, 1) := by decide +kernel
theorem dJ2_getChar_3b067_32 : decode cJ2_getChar_3b067 32 = .ok (.aload_n 0, 1) := by decide +kernel
theorem dJ2_getChar_3b067_33 : decode cJ2_getChar_3b067 33 = .ok (.iload_n 1, 1) := by decide +kernel
theorem dJ2_getChar_3b067_34 : decode cJ2_getChar_3b067 34 = .ok (.iinc 1 1, 3) := by decide +kernel
theorem dJ2_getChar_3b067_37 : decode cJ2_getChar_3b067 37 = .ok (.baload, 1) := by decide +kernel
theorem dJ2_getChar_3b067_38 : decode cJ2_getChar_3b067 38 = .ok (.sipush 255, 3) := by decide +kernel
theorem dJ2_getChar_3b067_41 : decode cJ2_getChar_3b067 41 = .ok (.iand, 1) := by decide +kernel
theorem dJ2_getChar_3b067_42 : decode cJ2_getChar_3b067 42 = .ok (.getstatic 59, 3) := by decide +kernel
theorem dJ2_getChar_3b067_45 : decode cJ2_getChar_3b067 45 = .ok (.ishl, 1) := by decide +kernel
theorem dJ2_getChar_3b067_46 : decode cJ2_getChar_3b067 46 = .ok (.aload_n 0, 1) := by decide +kernel
theorem dJ2_getChar_3b067_47 : decode cJ2_getChar_3b067 47 = .ok (.iload_n 1, 1) := by decide +kernel
theorem dJ2_getChar_3b067_48 : decode cJ2_getChar_3b067 48 = .ok (.baload, 1) := by decide +kernel
theorem dJ2_getChar_3b067_49 : decode cJ2_getChar_3b067 49 = .ok (.sipush 255, 3) := by decide +kernel
theorem dJ2_getChar_3b067_52 : decode cJ2_getChar_3b067 52 = .ok (.iand, 1) := by decide +kernel
theorem dJ2_getChar_3b067_53 : decode cJ2_getChar_3b067 53 = .ok (.getstatic 63, 3) := by decide +kernel
theorem dJ2_getChar_3b067_56 : decode cJ2_getChar_3b067 56 = .ok (.ishl, 1) := by decide +kernel
theorem dJ2_getChar_3b067_57 : decode cJ2_getChar_3b067 57 = .ok (.ior, 1) := by decide +kernel
theorem dJ2_getChar_3b067_58 : decode cJ2_getChar_3b067 58 = .ok (.i2c, 1) := by decide +kernel
theorem dJ2_getChar_3b067_59 : decode cJ2_getChar_3b067 59 = .ok (.ireturn, 1) := by decide +kernel
theorem dJ2_length_9d52b_0 : decode cJ2_length_9d52b 0 = .ok (.aload_n 0, 1) := by decide +kernel
theorem dJ2_length_9d52b_1 : decode cJ2_length_9d52b 1 = .ok (.arraylength, 1) := by decide +kernel
theorem dJ2_length_9d52b_2 : decode cJ2_length_9d52b 2 = .ok (.iconst 1, 1) := by decide +kernel
theorem dJ2_length_9d52b_3 : decode cJ2_length_9d52b 3 = .ok (.ishr, 1) := by decide +kernel
theorem dJ2_length_9d52b_4 : decode cJ2_length_9d52b 4 = .ok (.ireturn, 1) := by decide +kernel
theorem dJ2_charAt_3b067_0 : decode cJ2_charAt_3b067 0 = .ok (.iload_n 1, 1) := by decide +kernel
theorem dJ2_charAt_3b067_1 : decode cJ2_charAt_3b067 1 = .ok (.aload_n 0, 1) := by decide +kernel
theorem dJ2_charAt_3b067_2 : decode cJ2_charAt_3b067 2 = .ok (.invokestatic 67, 3) := by decide +kernel
theorem dJ2_charAt_3b067_5 : decode cJ2_charAt_3b067 5 = .ok (.aload_n 0, 1) := by decide +kernel
theorem dJ2_charAt_3b067_6 : decode cJ2_charAt_3b067 6 = .ok (.iload_n 1, 1) := by decide +kernel
theorem dJ2_charAt_3b067_7 : decode cJ2_charAt_3b067 7 = .ok (.invokestatic 71, 3) := by decide +kernel
theorem dJ2_charAt_3b067_10 : decode cJ2_charAt_3b067 10 = .ok (.ireturn, 1) := by decide +kernel
theorem dJ2_checkIndex_2214a_0 : decode cJ2_checkIndex_2214a 0 = .ok (.iload_n 0, 1) := by decide +kernel
theorem dJ2_checkIndex_2214a_1 : decode cJ2_checkIndex_2214a 1 = .ok (.aload_n 1, 1) := by decide +kernel
theorem dJ2_checkIndex_2214a_2 : decode cJ2_checkIndex_2214a 2 = .ok (.invokestatic 48, 3) := by decide +kernel
theorem dJ2_checkIndex_2214a_5 : decode cJ2_checkIndex_2214a 5 = .ok (.invokestatic 414, 3) := by decide +kernel
theorem dJ2_checkIndex_2214a_8 : decode cJ2_checkIndex_2214a 8 = .ok (.return_, 1) := by decide +kernel
theorem dJ7_fill_53178_0 : decode cJ7_fill_53178 0 = .ok (.iconst 0, 1) := by decide +kernel
theorem dJ7_fill_53178_1 : decode cJ7_fill_53178 1 = .ok (.istore_n 2, 1) := by decide +kernel
theorem dJ7_fill_53178_2 : decode cJ7_fill_53178 2 = .ok (.aload_n 0, 1) := by decide +kernel
theorem dJ7_fill_53178_3 : decode cJ7_fill_53178 3 = .ok (.arraylength, 1) := by decide +kernel
theorem dJ7_fill_53178_4 : decode cJ7_fill_53178 4 = .ok (.istore_n 3, 1) := by decide +kernel
theorem dJ7_fill_53178_5 : decode cJ7_fill_53178 5 = .ok (.iload_n 2, 1) := by decide +kernel
theorem dJ7_fill_53178_6 : decode cJ7_fill_53178 6 = .ok (.iload_n 3, 1) := by decide +kernel
theorem dJ7_fill_53178_7 : decode cJ7_fill_53178 7 = .ok (.if_icmp .ge 13, 3) := by decide +kernel
theorem dJ7_fill_53178_10 : decode cJ7_fill_53178 10 = .ok (.aload_n 0, 1) := by decide +kernel
theorem dJ7_fill_53178_11 : decode cJ7_fill_53178 11 = .ok (.iload_n 2, 1) := by decide +kernel
theorem dJ7_fill_53178_12 : decode cJ7_fill_53178 12 = .ok (.iload_n 1, 1) := by decide +kernel
theorem dJ7_fill_53178_13 : decode cJ7_fill_53178 13 = .ok (.iastore, 1) := by decide +kernel
theorem dJ7_fill_53178_14 : decode cJ7_fill_53178 14 = .ok (.iinc 2 1, 3) := by decide +kernel
theorem dJ7_fill_53178_17 : decode cJ7_fill_53178 17 = .ok (.goto (-12), 3) := by decide +kernel
theorem dJ7_fill_53178_20 : decode cJ7_fill_53178 20 = .ok (.return_, 1) := by decide +kernel
theorem dJ3_checkIndex_8e157_0 : decode cJ3_checkIndex_8e157 0 = .ok (.iload_n 0, 1) := by decide +kernel
theorem dJ3_checkIndex_8e157_1 : decode cJ3_checkIndex_8e157 1 = .ok (.ifCond .lt 8, 3) := by decide +kernel
theorem dJ3_checkIndex_8e157_4 : decode cJ3_checkIndex_8e157 4 = .ok (.iload_n 0, 1) := by decide +kernel
theorem dJ3_checkIndex_8e157_5 : decode cJ3_checkIndex_8e157 5 = .ok (.iload_n 1, 1) := by decide +kernel
theorem dJ3_checkIndex_8e157_6 : decode cJ3_checkIndex_8e157 6 = .ok (.if_icmp .lt 10, 3) := by decide +kernel
theorem dJ3_checkIndex_8e157_9 : decode cJ3_checkIndex_8e157 9 = .ok (.aload_n 2, 1) := by decide +kernel
theorem dJ3_checkIndex_8e157_10 : decode cJ3_checkIndex_8e157 10 = .ok (.iload_n 0, 1) := by decide +kernel
theorem dJ3_checkIndex_8e157_11 : decode cJ3_checkIndex_8e157 11 = .ok (.iload_n 1, 1) := by decide +kernel
theorem dJ3_checkIndex_8e157_12 : decode cJ3_checkIndex_8e157 12 = .ok (.invokestatic 95, 3) := by decide +kernel
theorem dJ3_checkIndex_8e157_15 : decode cJ3_checkIndex_8e157 15 = .ok (.athrow, 1) := by decide +kernel
theorem dJ3_checkIndex_8e157_16 : decode cJ3_checkIndex_8e157 16 = .ok (.iload_n 0, 1) := by decide +kernel
theorem dJ3_checkIndex_8e157_17 : decode cJ3_checkIndex_8e157 17 = .ok (.ireturn, 1) := by decide +kernel
theorem dX0_init_0 : decode cX0_init 0 = .ok (.aload_n 0, 1) := by decide +kernel
theorem dX0_init_1 : decode cX0_init 1 = .ok (.invokespecial 3, 3) := by decide +kernel
theorem dX0_init_4 : decode cX0_init 4 = .ok (.aload_n 0, 1) := by decide +kernel
theorem dX0_init_5 : decode cX0_init 5 = .ok (.iconst 4, 1) := by decide +kernel
theorem dX0_init_6 : decode cX0_init 6 = .ok (.newarray .int, 2) := by decide +kernel
theorem dX0_init_8 : decode cX0_init 8 = .ok (.putfield 11, 3) := by decide +kernel
theorem dX0_init_11 : decode cX0_init 11 = .ok (.aload_n 0, 1) := by decide +kernel
theorem dX0_init_12 : decode cX0_init 12 = .ok (.iconst 4, 1) := by decide +kernel
theorem dX0_init_13 : decode cX0_init 13 = .ok (.newarray .int, 2) := by decide +kernel
theorem dX0_init_15 : decode cX0_init 15 = .ok (.putfield 15, 3) := by decide +kernel
theorem dX0_init_18 : decode cX0_init 18 = .ok (.aload_n 0, 1) := by decide +kernel
theorem dX0_init_19 : decode cX0_init 19 = .ok (.sipush 160, 3) := by decide +kernel
theorem dX0_init_22 : decode cX0_init 22 = .ok (.newarray .int, 2) := by decide +kernel
theorem dX0_init_24 : decode cX0_init 24 = .ok (.putfield 18, 3) := by decide +kernel
theorem dX0_init_27 : decode cX0_init 27 = .ok (.aload_n 0, 1) := by decide +kernel
theorem dX0_init_28 : decode cX0_init 28 = .ok (.getfield 15, 3) := by decide +kernel
theorem dX0_init_31 : decode cX0_init 31 = .ok (.iconst (-1), 1) := by decide +kernel
theorem dX0_init_32 : decode cX0_init 32 = .ok (.invokestatic 21, 3) := by decide +kernel
theorem dX0_init_35 : decode cX0_init 35 = .ok (.return_, 1) := by decide +kernel
theorem dX0_isSheet_0 : decode cX0_isSheet 0 = .ok (.iload_n 1, 1) := by decide +kernel
theorem dX0_isSheet_1 : decode cX0_isSheet 1 = .ok (.ifCond .lt 12, 3) := by decide +kernel
theorem dX0_isSheet_4 : decode cX0_isSheet 4 = .ok (.iload_n 1, 1) := by decide +kernel
theorem dX0_isSheet_5 : decode cX0_isSheet 5 = .ok (.iconst 4, 1) := by decide +kernel
theorem dX0_isSheet_6 : decode cX0_isSheet 6 = .ok (.if_icmp .ge 7, 3) := by decide +kernel
theorem dX0_isSheet_9 : decode cX0_isSheet 9 = .ok (.iconst 1, 1) := by decide +kernel
theorem dX0_isSheet_10 : decode cX0_isSheet 10 = .ok (.goto 4, 3) := by decide +kernel
theorem dX0_isSheet_13 : decode cX0_isSheet 13 = .ok (.iconst 0, 1) := by decide +kernel
theorem dX0_isSheet_14 : decode cX0_isSheet 14 = .ok (.ireturn, 1) := by decide +kernel
theorem dX0_isLane_0 : decode cX0_isLane 0 = .ok (.iload_n 1, 1) := by decide +kernel
theorem dX0_isLane_1 : decode cX0_isLane 1 = .ok (.ifCond .lt 12, 3) := by decide +kernel
theorem dX0_isLane_4 : decode cX0_isLane 4 = .ok (.iload_n 1, 1) := by decide +kernel
theorem dX0_isLane_5 : decode cX0_isLane 5 = .ok (.iconst 3, 1) := by decide +kernel
theorem dX0_isLane_6 : decode cX0_isLane 6 = .ok (.if_icmp .ge 7, 3) := by decide +kernel
theorem dX0_isLane_9 : decode cX0_isLane 9 = .ok (.iconst 1, 1) := by decide +kernel
theorem dX0_isLane_10 : decode cX0_isLane 10 = .ok (.goto 4, 3) := by decide +kernel
theorem dX0_isLane_13 : decode cX0_isLane 13 = .ok (.iconst 0, 1) := by decide +kernel
theorem dX0_isLane_14 : decode cX0_isLane 14 = .ok (.ireturn, 1) := by decide +kernel
theorem dX0_renew_0 : decode cX0_renew 0 = .ok (.aload_n 0, 1) := by decide +kernel
theorem dX0_renew_1 : decode cX0_renew 1 = .ok (.getfield 11, 3) := by decide +kernel
theorem dX0_renew_4 : decode cX0_renew 4 = .ok (.iload_n 1, 1) := by decide +kernel
theorem dX0_renew_5 : decode cX0_renew 5 = .ok (.iload_n 2, 1) := by decide +kernel
theorem dX0_renew_6 : decode cX0_renew 6 = .ok (.iastore, 1) := by decide +kernel
theorem dX0_renew_7 : decode cX0_renew 7 = .ok (.aload_n 0, 1) := by decide +kernel
theorem dX0_renew_8 : decode cX0_renew 8 = .ok (.getfield 15, 3) := by decide +kernel
theorem dX0_renew_11 : decode cX0_renew 11 = .ok (.iload_n 1, 1) := by decide +kernel
theorem dX0_renew_12 : decode cX0_renew 12 = .ok (.iload_n 3, 1) := by decide +kernel
theorem dX0_renew_13 : decode cX0_renew 13 = .ok (.iastore, 1) := by decide +kernel
theorem dX0_renew_14 : decode cX0_renew 14 = .ok (.iconst 0, 1) := by decide +kernel
theorem dX0_renew_15 : decode cX0_renew 15 = .ok (.istore 4, 2) := by decide +kernel
theorem dX0_renew_17 : decode cX0_renew 17 = .ok (.iload 4, 2) := by decide +kernel
theorem dX0_renew_19 : decode cX0_renew 19 = .ok (.bipush 40, 2) := by decide +kernel
theorem dX0_renew_21 : decode cX0_renew 21 = .ok (.if_icmp .ge 22, 3) := by decide +kernel
theorem dX0_renew_24 : decode cX0_renew 24 = .ok (.aload_n 0, 1) := by decide +kernel
theorem dX0_renew_25 : decode cX0_renew 25 = .ok (.getfield 18, 3) := by decide +kernel
theorem dX0_renew_28 : decode cX0_renew 28 = .ok (.iload_n 1, 1) := by decide +kernel
theorem dX0_renew_29 : decode cX0_renew 29 = .ok (.bipush 40, 2) := by decide +kernel
theorem dX0_renew_31 : decode cX0_renew 31 = .ok (.imul, 1) := by decide +kernel
theorem dX0_renew_32 : decode cX0_renew 32 = .ok (.iload 4, 2) := by decide +kernel
theorem dX0_renew_34 : decode cX0_renew 34 = .ok (.iadd, 1) := by decide +kernel
theorem dX0_renew_35 : decode cX0_renew 35 = .ok (.iconst 0, 1) := by decide +kernel
theorem dX0_renew_36 : decode cX0_renew 36 = .ok (.iastore, 1) := by decide +kernel
theorem dX0_renew_37 : decode cX0_renew 37 = .ok (.iinc 4 1, 3) := by decide +kernel
theorem dX0_renew_40 : decode cX0_renew 40 = .ok (.goto (-23), 3) := by decide +kernel
theorem dX0_renew_43 : decode cX0_renew 43 = .ok (.return_, 1) := by decide +kernel
theorem dX0_faultOf_0 : decode cX0_faultOf 0 = .ok (.aload_n 0, 1) := by decide +kernel
theorem dX0_faultOf_1 : decode cX0_faultOf 1 = .ok (.getfield 15, 3) := by decide +kernel
theorem dX0_faultOf_4 : decode cX0_faultOf 4 = .ok (.iload_n 1, 1) := by decide +kernel
theorem dX0_faultOf_5 : decode cX0_faultOf 5 = .ok (.iaload, 1) := by decide +kernel
theorem dX0_faultOf_6 : decode cX0_faultOf 6 = .ok (.iconst (-1), 1) := by decide +kernel
theorem dX0_faultOf_7 : decode cX0_faultOf 7 = .ok (.if_icmp .ne 5, 3) := by decide +kernel
theorem dX0_faultOf_10 : decode cX0_faultOf 10 = .ok (.iconst 1, 1) := by decide +kernel
theorem dX0_faultOf_11 : decode cX0_faultOf 11 = .ok (.ireturn, 1) := by decide +kernel
theorem dX0_faultOf_12 : decode cX0_faultOf 12 = .ok (.aload_n 0, 1) := by decide +kernel
theorem dX0_faultOf_13 : decode cX0_faultOf 13 = .ok (.getfield 11, 3) := by decide +kernel
theorem dX0_faultOf_16 : decode cX0_faultOf 16 = .ok (.iload_n 1, 1) := by decide +kernel
theorem dX0_faultOf_17 : decode cX0_faultOf 17 = .ok (.iaload, 1) := by decide +kernel
theorem dX0_faultOf_18 : decode cX0_faultOf 18 = .ok (.iload_n 2, 1) := by decide +kernel
theorem dX0_faultOf_19 : decode cX0_faultOf 19 = .ok (.if_icmp .eq 5, 3) := by decide +kernel
theorem dX0_faultOf_22 : decode cX0_faultOf 22 = .ok (.iconst 3, 1) := by decide +kernel
theorem dX0_faultOf_23 : decode cX0_faultOf 23 = .ok (.ireturn, 1) := by decide +kernel
theorem dX0_faultOf_24 : decode cX0_faultOf 24 = .ok (.iload_n 3, 1) := by decide +kernel
theorem dX0_faultOf_25 : decode cX0_faultOf 25 = .ok (.ifCond .lt 16, 3) := by decide +kernel
theorem dX0_faultOf_28 : decode cX0_faultOf 28 = .ok (.iload_n 3, 1) := by decide +kernel
theorem dX0_faultOf_29 : decode cX0_faultOf 29 = .ok (.aload_n 0, 1) := by decide +kernel
theorem dX0_faultOf_30 : decode cX0_faultOf 30 = .ok (.getfield 15, 3) := by decide +kernel
theorem dX0_faultOf_33 : decode cX0_faultOf 33 = .ok (.iload_n 1, 1) := by decide +kernel
theorem dX0_faultOf_34 : decode cX0_faultOf 34 = .ok (.iaload, 1) := by decide +kernel
theorem dX0_faultOf_35 : decode cX0_faultOf 35 = .ok (.iload 4, 2) := by decide +kernel
theorem dX0_faultOf_37 : decode cX0_faultOf 37 = .ok (.isub, 1) := by decide +kernel
theorem dX0_faultOf_38 : decode cX0_faultOf 38 = .ok (.if_icmp .le 7, 3) := by decide +kernel
theorem dX0_faultOf_41 : decode cX0_faultOf 41 = .ok (.iconst 2, 1) := by decide +kernel
theorem dX0_faultOf_42 : decode cX0_faultOf 42 = .ok (.goto 4, 3) := by decide +kernel
theorem dX0_faultOf_45 : decode cX0_faultOf 45 = .ok (.iconst 0, 1) := by decide +kernel
theorem dX0_faultOf_46 : decode cX0_faultOf 46 = .ok (.ireturn, 1) := by decide +kernel
theorem dX0_cell_0 : decode cX0_cell 0 = .ok (.aload_n 0, 1) := by decide +kernel
theorem dX0_cell_1 : decode cX0_cell 1 = .ok (.getfield 18, 3) := by decide +kernel
theorem dX0_cell_4 : decode cX0_cell 4 = .ok (.iload_n 1, 1) := by decide +kernel
theorem dX0_cell_5 : decode cX0_cell 5 = .ok (.bipush 40, 2) := by decide +kernel
theorem dX0_cell_7 : decode cX0_cell 7 = .ok (.imul, 1) := by decide +kernel
theorem dX0_cell_8 : decode cX0_cell 8 = .ok (.iload_n 2, 1) := by decide +kernel
theorem dX0_cell_9 : decode cX0_cell 9 = .ok (.iadd, 1) := by decide +kernel
theorem dX0_cell_10 : decode cX0_cell 10 = .ok (.iaload, 1) := by decide +kernel
theorem dX0_cell_11 : decode cX0_cell 11 = .ok (.ireturn, 1) := by decide +kernel
theorem dX0_put_0 : decode cX0_put 0 = .ok (.aload_n 0, 1) := by decide +kernel
theorem dX0_put_1 : decode cX0_put 1 = .ok (.getfield 11, 3) := by decide +kernel
theorem dX0_put_4 : decode cX0_put 4 = .ok (.iload_n 1, 1) := by decide +kernel
theorem dX0_put_5 : decode cX0_put 5 = .ok (.iaload, 1) := by decide +kernel
theorem dX0_put_6 : decode cX0_put 6 = .ok (.ifCond .ne 8, 3) := by decide +kernel
theorem dX0_put_9 : decode cX0_put 9 = .ok (.iload_n 3, 1) := by decide +kernel
theorem dX0_put_10 : decode cX0_put 10 = .ok (.i2b, 1) := by decide +kernel
theorem dX0_put_11 : decode cX0_put 11 = .ok (.goto 19, 3) := by decide +kernel
theorem dX0_put_14 : decode cX0_put 14 = .ok (.aload_n 0, 1) := by decide +kernel
theorem dX0_put_15 : decode cX0_put 15 = .ok (.getfield 11, 3) := by decide +kernel
theorem dX0_put_18 : decode cX0_put 18 = .ok (.iload_n 1, 1) := by decide +kernel
theorem dX0_put_19 : decode cX0_put 19 = .ok (.iaload, 1) := by decide +kernel
theorem dX0_put_20 : decode cX0_put 20 = .ok (.iconst 1, 1) := by decide +kernel
theorem dX0_put_21 : decode cX0_put 21 = .ok (.if_icmp .ne 8, 3) := by decide +kernel
theorem dX0_put_24 : decode cX0_put 24 = .ok (.iload_n 3, 1) := by decide +kernel
theorem dX0_put_25 : decode cX0_put 25 = .ok (.i2s, 1) := by decide +kernel
theorem dX0_put_26 : decode cX0_put 26 = .ok (.goto 4, 3) := by decide +kernel
theorem dX0_put_29 : decode cX0_put 29 = .ok (.iload_n 3, 1) := by decide +kernel
theorem dX0_put_30 : decode cX0_put 30 = .ok (.istore 4, 2) := by decide +kernel
theorem dX0_put_32 : decode cX0_put 32 = .ok (.aload_n 0, 1) := by decide +kernel
theorem dX0_put_33 : decode cX0_put 33 = .ok (.getfield 18, 3) := by decide +kernel
theorem dX0_put_36 : decode cX0_put 36 = .ok (.iload_n 1, 1) := by decide +kernel
theorem dX0_put_37 : decode cX0_put 37 = .ok (.bipush 40, 2) := by decide +kernel
theorem dX0_put_39 : decode cX0_put 39 = .ok (.imul, 1) := by decide +kernel
theorem dX0_put_40 : decode cX0_put 40 = .ok (.iload_n 2, 1) := by decide +kernel
theorem dX0_put_41 : decode cX0_put 41 = .ok (.iadd, 1) := by decide +kernel
theorem dX0_put_42 : decode cX0_put 42 = .ok (.iload 4, 2) := by decide +kernel
theorem dX0_put_44 : decode cX0_put 44 = .ok (.iastore, 1) := by decide +kernel
theorem dX0_put_45 : decode cX0_put 45 = .ok (.return_, 1) := by decide +kernel
theorem dX1_init_0 : decode cX1_init 0 = .ok (.aload_n 0, 1) := by decide +kernel
theorem dX1_init_1 : decode cX1_init 1 = .ok (.invokespecial 1, 3) := by decide +kernel
theorem dX1_init_4 : decode cX1_init 4 = .ok (.aload_n 0, 1) := by decide +kernel
theorem dX1_init_5 : decode cX1_init 5 = .ok (.bipush 6, 2) := by decide +kernel
theorem dX1_init_7 : decode cX1_init 7 = .ok (.newarray .int, 2) := by decide +kernel
theorem dX1_init_9 : decode cX1_init 9 = .ok (.putfield 9, 3) := by decide +kernel
theorem dX1_init_12 : decode cX1_init 12 = .ok (.aload_n 0, 1) := by decide +kernel
theorem dX1_init_13 : decode cX1_init 13 = .ok (.bipush 6, 2) := by decide +kernel
theorem dX1_init_15 : decode cX1_init 15 = .ok (.newarray .int, 2) := by decide +kernel
theorem dX1_init_17 : decode cX1_init 17 = .ok (.putfield 13, 3) := by decide +kernel
theorem dX1_init_20 : decode cX1_init 20 = .ok (.aload_n 0, 1) := by decide +kernel
theorem dX1_init_21 : decode cX1_init 21 = .ok (.bipush 6, 2) := by decide +kernel
theorem dX1_init_23 : decode cX1_init 23 = .ok (.newarray .int, 2) := by decide +kernel
theorem dX1_init_25 : decode cX1_init 25 = .ok (.putfield 16, 3) := by decide +kernel
theorem dX1_init_28 : decode cX1_init 28 = .ok (.return_, 1) := by decide +kernel
theorem dX1_append_0 : decode cX1_append 0 = .ok (.aload_n 0, 1) := by decide +kernel
theorem dX1_append_1 : decode cX1_append 1 = .ok (.getfield 19, 3) := by decide +kernel
theorem dX1_append_4 : decode cX1_append 4 = .ok (.bipush 6, 2) := by decide +kernel
theorem dX1_append_6 : decode cX1_append 6 = .ok (.if_icmp .lt 5, 3) := by decide +kernel
theorem dX1_append_9 : decode cX1_append 9 = .ok (.iconst 0, 1) := by decide +kernel
theorem dX1_append_10 : decode cX1_append 10 = .ok (.ireturn, 1) := by decide +kernel
theorem dX1_append_11 : decode cX1_append 11 = .ok (.aload_n 0, 1) := by decide +kernel
theorem dX1_append_12 : decode cX1_append 12 = .ok (.getfield 9, 3) := by decide +kernel
theorem dX1_append_15 : decode cX1_append 15 = .ok (.aload_n 0, 1) := by decide +kernel
theorem dX1_append_16 : decode cX1_append 16 = .ok (.getfield 19, 3) := by decide +kernel
theorem dX1_append_19 : decode cX1_append 19 = .ok (.iload_n 1, 1) := by decide +kernel
theorem dX1_append_20 : decode cX1_append 20 = .ok (.iastore, 1) := by decide +kernel
theorem dX1_append_21 : decode cX1_append 21 = .ok (.aload_n 0, 1) := by decide +kernel
theorem dX1_append_22 : decode cX1_append 22 = .ok (.getfield 13, 3) := by decide +kernel
theorem dX1_append_25 : decode cX1_append 25 = .ok (.aload_n 0, 1) := by decide +kernel
theorem dX1_append_26 : decode cX1_append 26 = .ok (.getfield 19, 3) := by decide +kernel
theorem dX1_append_29 : decode cX1_append 29 = .ok (.iload_n 2, 1) := by decide +kernel
theorem dX1_append_30 : decode cX1_append 30 = .ok (.iastore, 1) := by decide +kernel
theorem dX1_append_31 : decode cX1_append 31 = .ok (.aload_n 0, 1) := by decide +kernel
theorem dX1_append_32 : decode cX1_append 32 = .ok (.getfield 16, 3) := by decide +kernel
theorem dX1_append_35 : decode cX1_append 35 = .ok (.aload_n 0, 1) := by decide +kernel
theorem dX1_append_36 : decode cX1_append 36 = .ok (.getfield 19, 3) := by decide +kernel
theorem dX1_append_39 : decode cX1_append 39 = .ok (.iload_n 3, 1) := by decide +kernel
theorem dX1_append_40 : decode cX1_append 40 = .ok (.iastore, 1) := by decide +kernel
theorem dX1_append_41 : decode cX1_append 41 = .ok (.aload_n 0, 1) := by decide +kernel
theorem dX1_append_42 : decode cX1_append 42 = .ok (.dup, 1) := by decide +kernel
theorem dX1_append_43 : decode cX1_append 43 = .ok (.getfield 19, 3) := by decide +kernel
theorem dX1_append_46 : decode cX1_append 46 = .ok (.iconst 1, 1) := by decide +kernel
theorem dX1_append_47 : decode cX1_append 47 = .ok (.iadd, 1) := by decide +kernel
theorem dX1_append_48 : decode cX1_append 48 = .ok (.putfield 19, 3) := by decide +kernel
theorem dX1_append_51 : decode cX1_append 51 = .ok (.iconst 1, 1) := by decide +kernel
theorem dX1_append_52 : decode cX1_append 52 = .ok (.ireturn, 1) := by decide +kernel
theorem dX1_comeTrueIn_0 : decode cX1_comeTrueIn 0 = .ok (.aload_n 0, 1) := by decide +kernel
theorem dX1_comeTrueIn_1 : decode cX1_comeTrueIn 1 = .ok (.invokevirtual 23, 3) := by decide +kernel
theorem dX1_comeTrueIn_4 : decode cX1_comeTrueIn 4 = .ok (.istore_n 2, 1) := by decide +kernel
theorem dX1_comeTrueIn_5 : decode cX1_comeTrueIn 5 = .ok (.iconst 0, 1) := by decide +kernel
theorem dX1_comeTrueIn_6 : decode cX1_comeTrueIn 6 = .ok (.istore_n 3, 1) := by decide +kernel
theorem dX1_comeTrueIn_7 : decode cX1_comeTrueIn 7 = .ok (.iload_n 3, 1) := by decide +kernel
theorem dX1_comeTrueIn_8 : decode cX1_comeTrueIn 8 = .ok (.iload_n 2, 1) := by decide +kernel
theorem dX1_comeTrueIn_9 : decode cX1_comeTrueIn 9 = .ok (.if_icmp .gt 25, 3) := by decide +kernel
theorem dX1_comeTrueIn_12 : decode cX1_comeTrueIn 12 = .ok (.aload_n 0, 1) := by decide +kernel
theorem dX1_comeTrueIn_13 : decode cX1_comeTrueIn 13 = .ok (.iload_n 3, 1) := by decide +kernel
theorem dX1_comeTrueIn_14 : decode cX1_comeTrueIn 14 = .ok (.aload_n 1, 1) := by decide +kernel
theorem dX1_comeTrueIn_15 : decode cX1_comeTrueIn 15 = .ok (.invokevirtual 27, 3) := by decide +kernel
theorem dX1_comeTrueIn_18 : decode cX1_comeTrueIn 18 = .ok (.ifCond .ne 5, 3) := by decide +kernel
theorem dX1_comeTrueIn_21 : decode cX1_comeTrueIn 21 = .ok (.iconst 0, 1) := by decide +kernel
theorem dX1_comeTrueIn_22 : decode cX1_comeTrueIn 22 = .ok (.ireturn, 1) := by decide +kernel
theorem dX1_comeTrueIn_23 : decode cX1_comeTrueIn 23 = .ok (.aload_n 1, 1) := by decide +kernel
theorem dX1_comeTrueIn_24 : decode cX1_comeTrueIn 24 = .ok (.invokevirtual 31, 3) := by decide +kernel
theorem dX1_comeTrueIn_27 : decode cX1_comeTrueIn 27 = .ok (.pop, 1) := by decide +kernel
theorem dX1_comeTrueIn_28 : decode cX1_comeTrueIn 28 = .ok (.iinc 3 1, 3) := by decide +kernel
theorem dX1_comeTrueIn_31 : decode cX1_comeTrueIn 31 = .ok (.goto (-24), 3) := by decide +kernel
theorem dX1_comeTrueIn_34 : decode cX1_comeTrueIn 34 = .ok (.iconst 1, 1) := by decide +kernel
theorem dX1_comeTrueIn_35 : decode cX1_comeTrueIn 35 = .ok (.ireturn, 1) := by decide +kernel
theorem dX1_lastDay_0 : decode cX1_lastDay 0 = .ok (.iconst (-1), 1) := by decide +kernel
theorem dX1_lastDay_1 : decode cX1_lastDay 1 = .ok (.istore_n 1, 1) := by decide +kernel
theorem dX1_lastDay_2 : decode cX1_lastDay 2 = .ok (.iconst 0, 1) := by decide +kernel
theorem dX1_lastDay_3 : decode cX1_lastDay 3 = .ok (.istore_n 2, 1) := by decide +kernel
theorem dX1_lastDay_4 : decode cX1_lastDay 4 = .ok (.iload_n 2, 1) := by decide +kernel
theorem dX1_lastDay_5 : decode cX1_lastDay 5 = .ok (.aload_n 0, 1) := by decide +kernel
theorem dX1_lastDay_6 : decode cX1_lastDay 6 = .ok (.getfield 19, 3) := by decide +kernel
theorem dX1_lastDay_9 : decode cX1_lastDay 9 = .ok (.if_icmp .ge 20, 3) := by decide +kernel
theorem dX1_lastDay_12 : decode cX1_lastDay 12 = .ok (.iload_n 1, 1) := by decide +kernel
theorem dX1_lastDay_13 : decode cX1_lastDay 13 = .ok (.aload_n 0, 1) := by decide +kernel
theorem dX1_lastDay_14 : decode cX1_lastDay 14 = .ok (.getfield 9, 3) := by decide +kernel
theorem dX1_lastDay_17 : decode cX1_lastDay 17 = .ok (.iload_n 2, 1) := by decide +kernel
theorem dX1_lastDay_18 : decode cX1_lastDay 18 = .ok (.iaload, 1) := by decide +kernel
theorem dX1_lastDay_19 : decode cX1_lastDay 19 = .ok (.invokestatic 36, 3) := by decide +kernel
theorem dX1_lastDay_22 : decode cX1_lastDay 22 = .ok (.istore_n 1, 1) := by decide +kernel
theorem dX1_lastDay_23 : decode cX1_lastDay 23 = .ok (.iinc 2 1, 3) := by decide +kernel
theorem dX1_lastDay_26 : decode cX1_lastDay 26 = .ok (.goto (-22), 3) := by decide +kernel
theorem dX1_lastDay_29 : decode cX1_lastDay 29 = .ok (.iload_n 1, 1) := by decide +kernel
theorem dX1_lastDay_30 : decode cX1_lastDay 30 = .ok (.ireturn, 1) := by decide +kernel
theorem dX1_areTrueOn_0 : decode cX1_areTrueOn 0 = .ok (.iconst 0, 1) := by decide +kernel
theorem dX1_areTrueOn_1 : decode cX1_areTrueOn 1 = .ok (.istore_n 3, 1) := by decide +kernel
theorem dX1_areTrueOn_2 : decode cX1_areTrueOn 2 = .ok (.iload_n 3, 1) := by decide +kernel
theorem dX1_areTrueOn_3 : decode cX1_areTrueOn 3 = .ok (.aload_n 0, 1) := by decide +kernel
theorem dX1_areTrueOn_4 : decode cX1_areTrueOn 4 = .ok (.getfield 19, 3) := by decide +kernel
theorem dX1_areTrueOn_7 : decode cX1_areTrueOn 7 = .ok (.if_icmp .ge 41, 3) := by decide +kernel
theorem dX1_areTrueOn_10 : decode cX1_areTrueOn 10 = .ok (.aload_n 0, 1) := by decide +kernel
theorem dX1_areTrueOn_11 : decode cX1_areTrueOn 11 = .ok (.getfield 9, 3) := by decide +kernel
theorem dX1_areTrueOn_14 : decode cX1_areTrueOn 14 = .ok (.iload_n 3, 1) := by decide +kernel
theorem dX1_areTrueOn_15 : decode cX1_areTrueOn 15 = .ok (.iaload, 1) := by decide +kernel
theorem dX1_areTrueOn_16 : decode cX1_areTrueOn 16 = .ok (.iload_n 1, 1) := by decide +kernel
theorem dX1_areTrueOn_17 : decode cX1_areTrueOn 17 = .ok (.if_icmp .ne 25, 3) := by decide +kernel
theorem dX1_areTrueOn_20 : decode cX1_areTrueOn 20 = .ok (.aload_n 2, 1) := by decide +kernel
theorem dX1_areTrueOn_21 : decode cX1_areTrueOn 21 = .ok (.getfield 42, 3) := by decide +kernel
theorem dX1_areTrueOn_24 : decode cX1_areTrueOn 24 = .ok (.aload_n 0, 1) := by decide +kernel
theorem dX1_areTrueOn_25 : decode cX1_areTrueOn 25 = .ok (.getfield 13, 3) := by decide +kernel
theorem dX1_areTrueOn_28 : decode cX1_areTrueOn 28 = .ok (.iload_n 3, 1) := by decide +kernel
theorem dX1_areTrueOn_29 : decode cX1_areTrueOn 29 = .ok (.iaload, 1) := by decide +kernel
theorem dX1_areTrueOn_30 : decode cX1_areTrueOn 30 = .ok (.iaload, 1) := by decide +kernel
theorem dX1_areTrueOn_31 : decode cX1_areTrueOn 31 = .ok (.aload_n 0, 1) := by decide +kernel
theorem dX1_areTrueOn_32 : decode cX1_areTrueOn 32 = .ok (.getfield 16, 3) := by decide +kernel
theorem dX1_areTrueOn_35 : decode cX1_areTrueOn 35 = .ok (.iload_n 3, 1) := by decide +kernel
theorem dX1_areTrueOn_36 : decode cX1_areTrueOn 36 = .ok (.iaload, 1) := by decide +kernel
theorem dX1_areTrueOn_37 : decode cX1_areTrueOn 37 = .ok (.if_icmp .eq 5, 3) := by decide +kernel
theorem dX1_areTrueOn_40 : decode cX1_areTrueOn 40 = .ok (.iconst 0, 1) := by decide +kernel
theorem dX1_areTrueOn_41 : decode cX1_areTrueOn 41 = .ok (.ireturn, 1) := by decide +kernel
theorem dX1_areTrueOn_42 : decode cX1_areTrueOn 42 = .ok (.iinc 3 1, 3) := by decide +kernel
theorem dX1_areTrueOn_45 : decode cX1_areTrueOn 45 = .ok (.goto (-43), 3) := by decide +kernel
theorem dX1_areTrueOn_48 : decode cX1_areTrueOn 48 = .ok (.iconst 1, 1) := by decide +kernel
theorem dX1_areTrueOn_49 : decode cX1_areTrueOn 49 = .ok (.ireturn, 1) := by decide +kernel
theorem dX2_init_0 : decode cX2_init 0 = .ok (.aload_n 0, 1) := by decide +kernel
theorem dX2_init_1 : decode cX2_init 1 = .ok (.invokespecial 3, 3) := by decide +kernel
theorem dX2_init_4 : decode cX2_init 4 = .ok (.aload_n 0, 1) := by decide +kernel
theorem dX2_init_5 : decode cX2_init 5 = .ok (.iconst 5, 1) := by decide +kernel
theorem dX2_init_6 : decode cX2_init 6 = .ok (.newarray .int, 2) := by decide +kernel
theorem dX2_init_8 : decode cX2_init 8 = .ok (.putfield 9, 3) := by decide +kernel
theorem dX2_init_11 : decode cX2_init 11 = .ok (.aload_n 0, 1) := by decide +kernel
theorem dX2_init_12 : decode cX2_init 12 = .ok (.iconst 5, 1) := by decide +kernel
theorem dX2_init_13 : decode cX2_init 13 = .ok (.newarray .int, 2) := by decide +kernel
theorem dX2_init_15 : decode cX2_init 15 = .ok (.putfield 15, 3) := by decide +kernel
theorem dX2_init_18 : decode cX2_init 18 = .ok (.aload_n 0, 1) := by decide +kernel
theorem dX2_init_19 : decode cX2_init 19 = .ok (.iconst 5, 1) := by decide +kernel
theorem dX2_init_20 : decode cX2_init 20 = .ok (.newarray .int, 2) := by decide +kernel
theorem dX2_init_22 : decode cX2_init 22 = .ok (.putfield 18, 3) := by decide +kernel
theorem dX2_init_25 : decode cX2_init 25 = .ok (.aload_n 0, 1) := by decide +kernel
theorem dX2_init_26 : decode cX2_init 26 = .ok (.iconst 4, 1) := by decide +kernel
theorem dX2_init_27 : decode cX2_init 27 = .ok (.newarray .int, 2) := by decide +kernel
theorem dX2_init_29 : decode cX2_init 29 = .ok (.putfield 21, 3) := by decide +kernel
theorem dX2_init_32 : decode cX2_init 32 = .ok (.aload_n 0, 1) := by decide +kernel
theorem dX2_init_33 : decode cX2_init 33 = .ok (.bipush 8, 2) := by decide +kernel
theorem dX2_init_35 : decode cX2_init 35 = .ok (.newarray .int, 2) := by decide +kernel
theorem dX2_init_37 : decode cX2_init 37 = .ok (.putfield 24, 3) := by decide +kernel
theorem dX2_init_40 : decode cX2_init 40 = .ok (.aload_n 0, 1) := by decide +kernel
theorem dX2_init_41 : decode cX2_init 41 = .ok (.bipush 8, 2) := by decide +kernel
theorem dX2_init_43 : decode cX2_init 43 = .ok (.newarray .int, 2) := by decide +kernel
theorem dX2_init_45 : decode cX2_init 45 = .ok (.putfield 27, 3) := by decide +kernel
theorem dX2_init_48 : decode cX2_init 48 = .ok (.aload_n 0, 1) := by decide +kernel
theorem dX2_init_49 : decode cX2_init 49 = .ok (.bipush 8, 2) := by decide +kernel
theorem dX2_init_51 : decode cX2_init 51 = .ok (.newarray .int, 2) := by decide +kernel
theorem dX2_init_53 : decode cX2_init 53 = .ok (.putfield 30, 3) := by decide +kernel
theorem dX2_init_56 : decode cX2_init 56 = .ok (.aload_n 0, 1) := by decide +kernel
theorem dX2_init_57 : decode cX2_init 57 = .ok (.bipush 8, 2) := by decide +kernel
theorem dX2_init_59 : decode cX2_init 59 = .ok (.newarray .int, 2) := by decide +kernel
theorem dX2_init_61 : decode cX2_init 61 = .ok (.putfield 33, 3) := by decide +kernel
theorem dX2_init_64 : decode cX2_init 64 = .ok (.aload_n 0, 1) := by decide +kernel
theorem dX2_init_65 : decode cX2_init 65 = .ok (.iconst 4, 1) := by decide +kernel
theorem dX2_init_66 : decode cX2_init 66 = .ok (.newarray .int, 2) := by decide +kernel
theorem dX2_init_68 : decode cX2_init 68 = .ok (.putfield 36, 3) := by decide +kernel
theorem dX2_init_71 : decode cX2_init 71 = .ok (.aload_n 0, 1) := by decide +kernel
theorem dX2_init_72 : decode cX2_init 72 = .ok (.invokevirtual 39, 3) := by decide +kernel
theorem dX2_init_75 : decode cX2_init 75 = .ok (.return_, 1) := by decide +kernel
theorem dX2_makeNew_0 : decode cX2_makeNew 0 = .ok (.aload_n 0, 1) := by decide +kernel
theorem dX2_makeNew_1 : decode cX2_makeNew 1 = .ok (.iconst 0, 1) := by decide +kernel
theorem dX2_makeNew_2 : decode cX2_makeNew 2 = .ok (.putfield 42, 3) := by decide +kernel
theorem dX2_makeNew_5 : decode cX2_makeNew 5 = .ok (.aload_n 0, 1) := by decide +kernel
theorem dX2_makeNew_6 : decode cX2_makeNew 6 = .ok (.bipush 25, 2) := by decide +kernel
theorem dX2_makeNew_8 : decode cX2_makeNew 8 = .ok (.putfield 46, 3) := by decide +kernel
theorem dX2_makeNew_11 : decode cX2_makeNew 11 = .ok (.aload_n 0, 1) := by decide +kernel
theorem dX2_makeNew_12 : decode cX2_makeNew 12 = .ok (.getfield 21, 3) := by decide +kernel
theorem dX2_makeNew_15 : decode cX2_makeNew 15 = .ok (.iconst 1, 1) := by decide +kernel
theorem dX2_makeNew_16 : decode cX2_makeNew 16 = .ok (.invokestatic 49, 3) := by decide +kernel
theorem dX2_makeNew_19 : decode cX2_makeNew 19 = .ok (.aload_n 0, 1) := by decide +kernel
theorem dX2_makeNew_20 : decode cX2_makeNew 20 = .ok (.iconst 0, 1) := by decide +kernel
theorem dX2_makeNew_21 : decode cX2_makeNew 21 = .ok (.putfield 55, 3) := by decide +kernel
theorem dX2_makeNew_24 : decode cX2_makeNew 24 = .ok (.aload_n 0, 1) := by decide +kernel
theorem dX2_makeNew_25 : decode cX2_makeNew 25 = .ok (.iconst 0, 1) := by decide +kernel
theorem dX2_makeNew_26 : decode cX2_makeNew 26 = .ok (.putfield 58, 3) := by decide +kernel
theorem dX2_makeNew_29 : decode cX2_makeNew 29 = .ok (.aload_n 0, 1) := by decide +kernel
theorem dX2_makeNew_30 : decode cX2_makeNew 30 = .ok (.iconst 0, 1) := by decide +kernel
theorem dX2_makeNew_31 : decode cX2_makeNew 31 = .ok (.putfield 61, 3) := by decide +kernel
theorem dX2_makeNew_34 : decode cX2_makeNew 34 = .ok (.aload_n 0, 1) := by decide +kernel
theorem dX2_makeNew_35 : decode cX2_makeNew 35 = .ok (.iconst 0, 1) := by decide +kernel
theorem dX2_makeNew_36 : decode cX2_makeNew 36 = .ok (.putfield 64, 3) := by decide +kernel
theorem dX2_makeNew_39 : decode cX2_makeNew 39 = .ok (.return_, 1) := by decide +kernel
theorem dX2_copyFrom_0 : decode cX2_copyFrom 0 = .ok (.aload_n 0, 1) := by decide +kernel
theorem dX2_copyFrom_1 : decode cX2_copyFrom 1 = .ok (.aload_n 1, 1) := by decide +kernel
theorem dX2_copyFrom_2 : decode cX2_copyFrom 2 = .ok (.getfield 42, 3) := by decide +kernel
theorem dX2_copyFrom_5 : decode cX2_copyFrom 5 = .ok (.putfield 42, 3) := by decide +kernel
theorem dX2_copyFrom_8 : decode cX2_copyFrom 8 = .ok (.aload_n 1, 1) := by decide +kernel
theorem dX2_copyFrom_9 : decode cX2_copyFrom 9 = .ok (.getfield 9, 3) := by decide +kernel
theorem dX2_copyFrom_12 : decode cX2_copyFrom 12 = .ok (.iconst 0, 1) := by decide +kernel
theorem dX2_copyFrom_13 : decode cX2_copyFrom 13 = .ok (.aload_n 0, 1) := by decide +kernel
theorem dX2_copyFrom_14 : decode cX2_copyFrom 14 = .ok (.getfield 9, 3) := by decide +kernel
theorem dX2_copyFrom_17 : decode cX2_copyFrom 17 = .ok (.iconst 0, 1) := by decide +kernel
theorem dX2_copyFrom_18 : decode cX2_copyFrom 18 = .ok (.iconst 5, 1) := by decide +kernel
theorem dX2_copyFrom_19 : decode cX2_copyFrom 19 = .ok (.invokestatic 67, 3) := by decide +kernel
theorem dX2_copyFrom_22 : decode cX2_copyFrom 22 = .ok (.aload_n 1, 1) := by decide +kernel
theorem dX2_copyFrom_23 : decode cX2_copyFrom 23 = .ok (.getfield 15, 3) := by decide +kernel
theorem dX2_copyFrom_26 : decode cX2_copyFrom 26 = .ok (.iconst 0, 1) := by decide +kernel
theorem dX2_copyFrom_27 : decode cX2_copyFrom 27 = .ok (.aload_n 0, 1) := by decide +kernel
theorem dX2_copyFrom_28 : decode cX2_copyFrom 28 = .ok (.getfield 15, 3) := by decide +kernel
theorem dX2_copyFrom_31 : decode cX2_copyFrom 31 = .ok (.iconst 0, 1) := by decide +kernel
theorem dX2_copyFrom_32 : decode cX2_copyFrom 32 = .ok (.iconst 5, 1) := by decide +kernel
theorem dX2_copyFrom_33 : decode cX2_copyFrom 33 = .ok (.invokestatic 67, 3) := by decide +kernel
theorem dX2_copyFrom_36 : decode cX2_copyFrom 36 = .ok (.aload_n 1, 1) := by decide +kernel
theorem dX2_copyFrom_37 : decode cX2_copyFrom 37 = .ok (.getfield 18, 3) := by decide +kernel
theorem dX2_copyFrom_40 : decode cX2_copyFrom 40 = .ok (.iconst 0, 1) := by decide +kernel
theorem dX2_copyFrom_41 : decode cX2_copyFrom 41 = .ok (.aload_n 0, 1) := by decide +kernel
theorem dX2_copyFrom_42 : decode cX2_copyFrom 42 = .ok (.getfield 18, 3) := by decide +kernel
theorem dX2_copyFrom_45 : decode cX2_copyFrom 45 = .ok (.iconst 0, 1) := by decide +kernel
theorem dX2_copyFrom_46 : decode cX2_copyFrom 46 = .ok (.iconst 5, 1) := by decide +kernel
theorem dX2_copyFrom_47 : decode cX2_copyFrom 47 = .ok (.invokestatic 67, 3) := by decide +kernel
theorem dX2_copyFrom_50 : decode cX2_copyFrom 50 = .ok (.aload_n 0, 1) := by decide +kernel
theorem dX2_copyFrom_51 : decode cX2_copyFrom 51 = .ok (.aload_n 1, 1) := by decide +kernel
theorem dX2_copyFrom_52 : decode cX2_copyFrom 52 = .ok (.getfield 46, 3) := by decide +kernel
theorem dX2_copyFrom_55 : decode cX2_copyFrom 55 = .ok (.putfield 46, 3) := by decide +kernel
theorem dX2_copyFrom_58 : decode cX2_copyFrom 58 = .ok (.aload_n 1, 1) := by decide +kernel
theorem dX2_copyFrom_59 : decode cX2_copyFrom 59 = .ok (.getfield 21, 3) := by decide +kernel
theorem dX2_copyFrom_62 : decode cX2_copyFrom 62 = .ok (.iconst 0, 1) := by decide +kernel
theorem dX2_copyFrom_63 : decode cX2_copyFrom 63 = .ok (.aload_n 0, 1) := by decide +kernel
theorem dX2_copyFrom_64 : decode cX2_copyFrom 64 = .ok (.getfield 21, 3) := by decide +kernel
theorem dX2_copyFrom_67 : decode cX2_copyFrom 67 = .ok (.iconst 0, 1) := by decide +kernel
theorem dX2_copyFrom_68 : decode cX2_copyFrom 68 = .ok (.iconst 4, 1) := by decide +kernel
theorem dX2_copyFrom_69 : decode cX2_copyFrom 69 = .ok (.invokestatic 67, 3) := by decide +kernel
theorem dX2_copyFrom_72 : decode cX2_copyFrom 72 = .ok (.aload_n 0, 1) := by decide +kernel
theorem dX2_copyFrom_73 : decode cX2_copyFrom 73 = .ok (.aload_n 1, 1) := by decide +kernel
theorem dX2_copyFrom_74 : decode cX2_copyFrom 74 = .ok (.getfield 55, 3) := by decide +kernel
theorem dX2_copyFrom_77 : decode cX2_copyFrom 77 = .ok (.putfield 55, 3) := by decide +kernel
theorem dX2_copyFrom_80 : decode cX2_copyFrom 80 = .ok (.aload_n 1, 1) := by decide +kernel
theorem dX2_copyFrom_81 : decode cX2_copyFrom 81 = .ok (.getfield 24, 3) := by decide +kernel
theorem dX2_copyFrom_84 : decode cX2_copyFrom 84 = .ok (.iconst 0, 1) := by decide +kernel
theorem dX2_copyFrom_85 : decode cX2_copyFrom 85 = .ok (.aload_n 0, 1) := by decide +kernel
theorem dX2_copyFrom_86 : decode cX2_copyFrom 86 = .ok (.getfield 24, 3) := by decide +kernel
theorem dX2_copyFrom_89 : decode cX2_copyFrom 89 = .ok (.iconst 0, 1) := by decide +kernel
theorem dX2_copyFrom_90 : decode cX2_copyFrom 90 = .ok (.bipush 8, 2) := by decide +kernel
theorem dX2_copyFrom_92 : decode cX2_copyFrom 92 = .ok (.invokestatic 67, 3) := by decide +kernel
theorem dX2_copyFrom_95 : decode cX2_copyFrom 95 = .ok (.aload_n 1, 1) := by decide +kernel
theorem dX2_copyFrom_96 : decode cX2_copyFrom 96 = .ok (.getfield 27, 3) := by decide +kernel
theorem dX2_copyFrom_99 : decode cX2_copyFrom 99 = .ok (.iconst 0, 1) := by decide +kernel
theorem dX2_copyFrom_100 : decode cX2_copyFrom 100 = .ok (.aload_n 0, 1) := by decide +kernel
theorem dX2_copyFrom_101 : decode cX2_copyFrom 101 = .ok (.getfield 27, 3) := by decide +kernel
theorem dX2_copyFrom_104 : decode cX2_copyFrom 104 = .ok (.iconst 0, 1) := by decide +kernel
theorem dX2_copyFrom_105 : decode cX2_copyFrom 105 = .ok (.bipush 8, 2) := by decide +kernel
theorem dX2_copyFrom_107 : decode cX2_copyFrom 107 = .ok (.invokestatic 67, 3) := by decide +kernel
theorem dX2_copyFrom_110 : decode cX2_copyFrom 110 = .ok (.aload_n 1, 1) := by decide +kernel
theorem dX2_copyFrom_111 : decode cX2_copyFrom 111 = .ok (.getfield 30, 3) := by decide +kernel
theorem dX2_copyFrom_114 : decode cX2_copyFrom 114 = .ok (.iconst 0, 1) := by decide +kernel
theorem dX2_copyFrom_115 : decode cX2_copyFrom 115 = .ok (.aload_n 0, 1) := by decide +kernel
theorem dX2_copyFrom_116 : decode cX2_copyFrom 116 = .ok (.getfield 30, 3) := by decide +kernel
theorem dX2_copyFrom_119 : decode cX2_copyFrom 119 = .ok (.iconst 0, 1) := by decide +kernel
theorem dX2_copyFrom_120 : decode cX2_copyFrom 120 = .ok (.bipush 8, 2) := by decide +kernel
theorem dX2_copyFrom_122 : decode cX2_copyFrom 122 = .ok (.invokestatic 67, 3) := by decide +kernel
theorem dX2_copyFrom_125 : decode cX2_copyFrom 125 = .ok (.aload_n 1, 1) := by decide +kernel
theorem dX2_copyFrom_126 : decode cX2_copyFrom 126 = .ok (.getfield 33, 3) := by decide +kernel
theorem dX2_copyFrom_129 : decode cX2_copyFrom 129 = .ok (.iconst 0, 1) := by decide +kernel
theorem dX2_copyFrom_130 : decode cX2_copyFrom 130 = .ok (.aload_n 0, 1) := by decide +kernel
theorem dX2_copyFrom_131 : decode cX2_copyFrom 131 = .ok (.getfield 33, 3) := by decide +kernel
theorem dX2_copyFrom_134 : decode cX2_copyFrom 134 = .ok (.iconst 0, 1) := by decide +kernel
theorem dX2_copyFrom_135 : decode cX2_copyFrom 135 = .ok (.bipush 8, 2) := by decide +kernel
theorem dX2_copyFrom_137 : decode cX2_copyFrom 137 = .ok (.invokestatic 67, 3) := by decide +kernel
theorem dX2_copyFrom_140 : decode cX2_copyFrom 140 = .ok (.aload_n 0, 1) := by decide +kernel
theorem dX2_copyFrom_141 : decode cX2_copyFrom 141 = .ok (.aload_n 1, 1) := by decide +kernel
theorem dX2_copyFrom_142 : decode cX2_copyFrom 142 = .ok (.getfield 58, 3) := by decide +kernel
theorem dX2_copyFrom_145 : decode cX2_copyFrom 145 = .ok (.putfield 58, 3) := by decide +kernel
theorem dX2_copyFrom_148 : decode cX2_copyFrom 148 = .ok (.aload_n 0, 1) := by decide +kernel
theorem dX2_copyFrom_149 : decode cX2_copyFrom 149 = .ok (.aload_n 1, 1) := by decide +kernel
theorem dX2_copyFrom_150 : decode cX2_copyFrom 150 = .ok (.getfield 61, 3) := by decide +kernel
theorem dX2_copyFrom_153 : decode cX2_copyFrom 153 = .ok (.putfield 61, 3) := by decide +kernel
theorem dX2_copyFrom_156 : decode cX2_copyFrom 156 = .ok (.aload_n 0, 1) := by decide +kernel
theorem dX2_copyFrom_157 : decode cX2_copyFrom 157 = .ok (.aload_n 1, 1) := by decide +kernel
theorem dX2_copyFrom_158 : decode cX2_copyFrom 158 = .ok (.getfield 64, 3) := by decide +kernel
theorem dX2_copyFrom_161 : decode cX2_copyFrom 161 = .ok (.putfield 64, 3) := by decide +kernel
theorem dX2_copyFrom_164 : decode cX2_copyFrom 164 = .ok (.return_, 1) := by decide +kernel
theorem dX2_addRider_0 : decode cX2_addRider 0 = .ok (.aload_n 0, 1) := by decide +kernel
theorem dX2_addRider_1 : decode cX2_addRider 1 = .ok (.getfield 42, 3) := by decide +kernel
theorem dX2_addRider_4 : decode cX2_addRider 4 = .ok (.iconst 5, 1) := by decide +kernel
theorem dX2_addRider_5 : decode cX2_addRider 5 = .ok (.if_icmp .lt 5, 3) := by decide +kernel
theorem dX2_addRider_8 : decode cX2_addRider 8 = .ok (.iconst 0, 1) := by decide +kernel
theorem dX2_addRider_9 : decode cX2_addRider 9 = .ok (.ireturn, 1) := by decide +kernel
theorem dX2_addRider_10 : decode cX2_addRider 10 = .ok (.aload_n 0, 1) := by decide +kernel
theorem dX2_addRider_11 : decode cX2_addRider 11 = .ok (.getfield 9, 3) := by decide +kernel
theorem dX2_addRider_14 : decode cX2_addRider 14 = .ok (.aload_n 0, 1) := by decide +kernel
theorem dX2_addRider_15 : decode cX2_addRider 15 = .ok (.getfield 42, 3) := by decide +kernel
theorem dX2_addRider_18 : decode cX2_addRider 18 = .ok (.iload_n 1, 1) := by decide +kernel
theorem dX2_addRider_19 : decode cX2_addRider 19 = .ok (.iastore, 1) := by decide +kernel
theorem dX2_addRider_20 : decode cX2_addRider 20 = .ok (.aload_n 0, 1) := by decide +kernel
theorem dX2_addRider_21 : decode cX2_addRider 21 = .ok (.getfield 15, 3) := by decide +kernel
theorem dX2_addRider_24 : decode cX2_addRider 24 = .ok (.aload_n 0, 1) := by decide +kernel
theorem dX2_addRider_25 : decode cX2_addRider 25 = .ok (.getfield 42, 3) := by decide +kernel
theorem dX2_addRider_28 : decode cX2_addRider 28 = .ok (.iload_n 2, 1) := by decide +kernel
theorem dX2_addRider_29 : decode cX2_addRider 29 = .ok (.iastore, 1) := by decide +kernel
theorem dX2_addRider_30 : decode cX2_addRider 30 = .ok (.aload_n 0, 1) := by decide +kernel
theorem dX2_addRider_31 : decode cX2_addRider 31 = .ok (.getfield 18, 3) := by decide +kernel
theorem dX2_addRider_34 : decode cX2_addRider 34 = .ok (.aload_n 0, 1) := by decide +kernel
theorem dX2_addRider_35 : decode cX2_addRider 35 = .ok (.getfield 42, 3) := by decide +kernel
theorem dX2_addRider_38 : decode cX2_addRider 38 = .ok (.iload_n 3, 1) := by decide +kernel
theorem dX2_addRider_39 : decode cX2_addRider 39 = .ok (.iastore, 1) := by decide +kernel
theorem dX2_addRider_40 : decode cX2_addRider 40 = .ok (.aload_n 0, 1) := by decide +kernel
theorem dX2_addRider_41 : decode cX2_addRider 41 = .ok (.dup, 1) := by decide +kernel
theorem dX2_addRider_42 : decode cX2_addRider 42 = .ok (.getfield 42, 3) := by decide +kernel
theorem dX2_addRider_45 : decode cX2_addRider 45 = .ok (.iconst 1, 1) := by decide +kernel
theorem dX2_addRider_46 : decode cX2_addRider 46 = .ok (.iadd, 1) := by decide +kernel
theorem dX2_addRider_47 : decode cX2_addRider 47 = .ok (.putfield 42, 3) := by decide +kernel
theorem dX2_addRider_50 : decode cX2_addRider 50 = .ok (.iconst 1, 1) := by decide +kernel
theorem dX2_addRider_51 : decode cX2_addRider 51 = .ok (.ireturn, 1) := by decide +kernel
theorem dX2_addReport_0 : decode cX2_addReport 0 = .ok (.aload_n 0, 1) := by decide +kernel
theorem dX2_addReport_1 : decode cX2_addReport 1 = .ok (.getfield 55, 3) := by decide +kernel
theorem dX2_addReport_4 : decode cX2_addReport 4 = .ok (.bipush 8, 2) := by decide +kernel
theorem dX2_addReport_6 : decode cX2_addReport 6 = .ok (.if_icmp .lt 5, 3) := by decide +kernel
theorem dX2_addReport_9 : decode cX2_addReport 9 = .ok (.iconst 0, 1) := by decide +kernel
theorem dX2_addReport_10 : decode cX2_addReport 10 = .ok (.ireturn, 1) := by decide +kernel
theorem dX2_addReport_11 : decode cX2_addReport 11 = .ok (.aload_n 0, 1) := by decide +kernel
theorem dX2_addReport_12 : decode cX2_addReport 12 = .ok (.getfield 24, 3) := by decide +kernel
theorem dX2_addReport_15 : decode cX2_addReport 15 = .ok (.aload_n 0, 1) := by decide +kernel
theorem dX2_addReport_16 : decode cX2_addReport 16 = .ok (.getfield 55, 3) := by decide +kernel
theorem dX2_addReport_19 : decode cX2_addReport 19 = .ok (.iload_n 1, 1) := by decide +kernel
theorem dX2_addReport_20 : decode cX2_addReport 20 = .ok (.iastore, 1) := by decide +kernel
theorem dX2_addReport_21 : decode cX2_addReport 21 = .ok (.aload_n 0, 1) := by decide +kernel
theorem dX2_addReport_22 : decode cX2_addReport 22 = .ok (.getfield 27, 3) := by decide +kernel
theorem dX2_addReport_25 : decode cX2_addReport 25 = .ok (.aload_n 0, 1) := by decide +kernel
theorem dX2_addReport_26 : decode cX2_addReport 26 = .ok (.getfield 55, 3) := by decide +kernel
theorem dX2_addReport_29 : decode cX2_addReport 29 = .ok (.iload_n 2, 1) := by decide +kernel
theorem dX2_addReport_30 : decode cX2_addReport 30 = .ok (.iastore, 1) := by decide +kernel
theorem dX2_addReport_31 : decode cX2_addReport 31 = .ok (.aload_n 0, 1) := by decide +kernel
theorem dX2_addReport_32 : decode cX2_addReport 32 = .ok (.getfield 30, 3) := by decide +kernel
theorem dX2_addReport_35 : decode cX2_addReport 35 = .ok (.aload_n 0, 1) := by decide +kernel
theorem dX2_addReport_36 : decode cX2_addReport 36 = .ok (.getfield 55, 3) := by decide +kernel
theorem dX2_addReport_39 : decode cX2_addReport 39 = .ok (.iload_n 3, 1) := by decide +kernel
theorem dX2_addReport_40 : decode cX2_addReport 40 = .ok (.iastore, 1) := by decide +kernel
theorem dX2_addReport_41 : decode cX2_addReport 41 = .ok (.aload_n 0, 1) := by decide +kernel
theorem dX2_addReport_42 : decode cX2_addReport 42 = .ok (.getfield 33, 3) := by decide +kernel
theorem dX2_addReport_45 : decode cX2_addReport 45 = .ok (.aload_n 0, 1) := by decide +kernel
theorem dX2_addReport_46 : decode cX2_addReport 46 = .ok (.getfield 55, 3) := by decide +kernel
theorem dX2_addReport_49 : decode cX2_addReport 49 = .ok (.iload 4, 2) := by decide +kernel
theorem dX2_addReport_51 : decode cX2_addReport 51 = .ok (.iastore, 1) := by decide +kernel
theorem dX2_addReport_52 : decode cX2_addReport 52 = .ok (.aload_n 0, 1) := by decide +kernel
theorem dX2_addReport_53 : decode cX2_addReport 53 = .ok (.dup, 1) := by decide +kernel
theorem dX2_addReport_54 : decode cX2_addReport 54 = .ok (.getfield 55, 3) := by decide +kernel
theorem dX2_addReport_57 : decode cX2_addReport 57 = .ok (.iconst 1, 1) := by decide +kernel
theorem dX2_addReport_58 : decode cX2_addReport 58 = .ok (.iadd, 1) := by decide +kernel
theorem dX2_addReport_59 : decode cX2_addReport 59 = .ok (.putfield 55, 3) := by decide +kernel
theorem dX2_addReport_62 : decode cX2_addReport 62 = .ok (.iconst 1, 1) := by decide +kernel
theorem dX2_addReport_63 : decode cX2_addReport 63 = .ok (.ireturn, 1) := by decide +kernel
theorem dX2_readingOf_0 : decode cX2_readingOf 0 = .ok (.aload_n 0, 1) := by decide +kernel
theorem dX2_readingOf_1 : decode cX2_readingOf 1 = .ok (.getfield 9, 3) := by decide +kernel
theorem dX2_readingOf_4 : decode cX2_readingOf 4 = .ok (.iload_n 1, 1) := by decide +kernel
theorem dX2_readingOf_5 : decode cX2_readingOf 5 = .ok (.iaload, 1) := by decide +kernel
theorem dX2_readingOf_6 : decode cX2_readingOf 6 = .ok (.aload_n 0, 1) := by decide +kernel
theorem dX2_readingOf_7 : decode cX2_readingOf 7 = .ok (.getfield 15, 3) := by decide +kernel
theorem dX2_readingOf_10 : decode cX2_readingOf 10 = .ok (.iload_n 1, 1) := by decide +kernel
theorem dX2_readingOf_11 : decode cX2_readingOf 11 = .ok (.iaload, 1) := by decide +kernel
theorem dX2_readingOf_12 : decode cX2_readingOf 12 = .ok (.invokestatic 73, 3) := by decide +kernel
theorem dX2_readingOf_15 : decode cX2_readingOf 15 = .ok (.ireturn, 1) := by decide +kernel
theorem dX2_holds_0 : decode cX2_holds 0 = .ok (.iload_n 2, 1) := by decide +kernel
theorem dX2_holds_1 : decode cX2_holds 1 = .ok (.iload_n 1, 1) := by decide +kernel
theorem dX2_holds_2 : decode cX2_holds 2 = .ok (.invokestatic 77, 3) := by decide +kernel
theorem dX2_holds_5 : decode cX2_holds 5 = .ok (.aload_n 0, 1) := by decide +kernel
theorem dX2_holds_6 : decode cX2_holds 6 = .ok (.getfield 46, 3) := by decide +kernel
theorem dX2_holds_9 : decode cX2_holds 9 = .ok (.imul, 1) := by decide +kernel
theorem dX2_holds_10 : decode cX2_holds 10 = .ok (.if_icmp .gt 7, 3) := by decide +kernel
theorem dX2_holds_13 : decode cX2_holds 13 = .ok (.iconst 1, 1) := by decide +kernel
theorem dX2_holds_14 : decode cX2_holds 14 = .ok (.goto 4, 3) := by decide +kernel
theorem dX2_holds_17 : decode cX2_holds 17 = .ok (.iconst 0, 1) := by decide +kernel
theorem dX2_holds_18 : decode cX2_holds 18 = .ok (.ireturn, 1) := by decide +kernel
theorem dX2_reportsOn_0 : decode cX2_reportsOn 0 = .ok (.iconst 0, 1) := by decide +kernel
theorem dX2_reportsOn_1 : decode cX2_reportsOn 1 = .ok (.istore_n 2, 1) := by decide +kernel
theorem dX2_reportsOn_2 : decode cX2_reportsOn 2 = .ok (.iconst 0, 1) := by decide +kernel
theorem dX2_reportsOn_3 : decode cX2_reportsOn 3 = .ok (.istore_n 3, 1) := by decide +kernel
theorem dX2_reportsOn_4 : decode cX2_reportsOn 4 = .ok (.iload_n 3, 1) := by decide +kernel
theorem dX2_reportsOn_5 : decode cX2_reportsOn 5 = .ok (.aload_n 0, 1) := by decide +kernel
theorem dX2_reportsOn_6 : decode cX2_reportsOn 6 = .ok (.getfield 55, 3) := by decide +kernel
theorem dX2_reportsOn_9 : decode cX2_reportsOn 9 = .ok (.if_icmp .ge 29, 3) := by decide +kernel
theorem dX2_reportsOn_12 : decode cX2_reportsOn 12 = .ok (.iload_n 2, 1) := by decide +kernel
theorem dX2_reportsOn_13 : decode cX2_reportsOn 13 = .ok (.aload_n 0, 1) := by decide +kernel
theorem dX2_reportsOn_14 : decode cX2_reportsOn 14 = .ok (.getfield 30, 3) := by decide +kernel
theorem dX2_reportsOn_17 : decode cX2_reportsOn 17 = .ok (.iload_n 3, 1) := by decide +kernel
theorem dX2_reportsOn_18 : decode cX2_reportsOn 18 = .ok (.iaload, 1) := by decide +kernel
theorem dX2_reportsOn_19 : decode cX2_reportsOn 19 = .ok (.iload_n 1, 1) := by decide +kernel
theorem dX2_reportsOn_20 : decode cX2_reportsOn 20 = .ok (.if_icmp .ne 9, 3) := by decide +kernel
theorem dX2_reportsOn_23 : decode cX2_reportsOn 23 = .ok (.iconst 1, 1) := by decide +kernel
theorem dX2_reportsOn_24 : decode cX2_reportsOn 24 = .ok (.iload_n 3, 1) := by decide +kernel
theorem dX2_reportsOn_25 : decode cX2_reportsOn 25 = .ok (.ishl, 1) := by decide +kernel
theorem dX2_reportsOn_26 : decode cX2_reportsOn 26 = .ok (.goto 4, 3) := by decide +kernel
theorem dX2_reportsOn_29 : decode cX2_reportsOn 29 = .ok (.iconst 0, 1) := by decide +kernel
theorem dX2_reportsOn_30 : decode cX2_reportsOn 30 = .ok (.ior, 1) := by decide +kernel
theorem dX2_reportsOn_31 : decode cX2_reportsOn 31 = .ok (.istore_n 2, 1) := by decide +kernel
theorem dX2_reportsOn_32 : decode cX2_reportsOn 32 = .ok (.iinc 3 1, 3) := by decide +kernel
theorem dX2_reportsOn_35 : decode cX2_reportsOn 35 = .ok (.goto (-31), 3) := by decide +kernel
theorem dX2_reportsOn_38 : decode cX2_reportsOn 38 = .ok (.iload_n 2, 1) := by decide +kernel
theorem dX2_reportsOn_39 : decode cX2_reportsOn 39 = .ok (.ireturn, 1) := by decide +kernel
theorem dX2_sumTrust_0 : decode cX2_sumTrust 0 = .ok (.aload_n 0, 1) := by decide +kernel
theorem dX2_sumTrust_1 : decode cX2_sumTrust 1 = .ok (.getfield 36, 3) := by decide +kernel
theorem dX2_sumTrust_4 : decode cX2_sumTrust 4 = .ok (.iconst 0, 1) := by decide +kernel
theorem dX2_sumTrust_5 : decode cX2_sumTrust 5 = .ok (.invokestatic 49, 3) := by decide +kernel
theorem dX2_sumTrust_8 : decode cX2_sumTrust 8 = .ok (.iconst 0, 1) := by decide +kernel
theorem dX2_sumTrust_9 : decode cX2_sumTrust 9 = .ok (.istore_n 3, 1) := by decide +kernel
theorem dX2_sumTrust_10 : decode cX2_sumTrust 10 = .ok (.iload_n 3, 1) := by decide +kernel
theorem dX2_sumTrust_11 : decode cX2_sumTrust 11 = .ok (.aload_n 0, 1) := by decide +kernel
theorem dX2_sumTrust_12 : decode cX2_sumTrust 12 = .ok (.getfield 55, 3) := by decide +kernel
theorem dX2_sumTrust_15 : decode cX2_sumTrust 15 = .ok (.if_icmp .ge 65, 3) := by decide +kernel
theorem dX2_sumTrust_18 : decode cX2_sumTrust 18 = .ok (.aload_n 0, 1) := by decide +kernel
theorem dX2_sumTrust_19 : decode cX2_sumTrust 19 = .ok (.getfield 30, 3) := by decide +kernel
theorem dX2_sumTrust_22 : decode cX2_sumTrust 22 = .ok (.iload_n 3, 1) := by decide +kernel
theorem dX2_sumTrust_23 : decode cX2_sumTrust 23 = .ok (.iaload, 1) := by decide +kernel
theorem dX2_sumTrust_24 : decode cX2_sumTrust 24 = .ok (.iload_n 1, 1) := by decide +kernel
theorem dX2_sumTrust_25 : decode cX2_sumTrust 25 = .ok (.if_icmp .ne 49, 3) := by decide +kernel
theorem dX2_sumTrust_28 : decode cX2_sumTrust 28 = .ok (.aload_n 0, 1) := by decide +kernel
theorem dX2_sumTrust_29 : decode cX2_sumTrust 29 = .ok (.getfield 24, 3) := by decide +kernel
theorem dX2_sumTrust_32 : decode cX2_sumTrust 32 = .ok (.iload_n 3, 1) := by decide +kernel
theorem dX2_sumTrust_33 : decode cX2_sumTrust 33 = .ok (.iaload, 1) := by decide +kernel
theorem dX2_sumTrust_34 : decode cX2_sumTrust 34 = .ok (.iload_n 2, 1) := by decide +kernel
theorem dX2_sumTrust_35 : decode cX2_sumTrust 35 = .ok (.if_icmp .gt 39, 3) := by decide +kernel
theorem dX2_sumTrust_38 : decode cX2_sumTrust 38 = .ok (.aload_n 0, 1) := by decide +kernel
theorem dX2_sumTrust_39 : decode cX2_sumTrust 39 = .ok (.getfield 58, 3) := by decide +kernel
theorem dX2_sumTrust_42 : decode cX2_sumTrust 42 = .ok (.iload_n 3, 1) := by decide +kernel
theorem dX2_sumTrust_43 : decode cX2_sumTrust 43 = .ok (.ishr, 1) := by decide +kernel
theorem dX2_sumTrust_44 : decode cX2_sumTrust 44 = .ok (.iconst 1, 1) := by decide +kernel
theorem dX2_sumTrust_45 : decode cX2_sumTrust 45 = .ok (.iand, 1) := by decide +kernel
theorem dX2_sumTrust_46 : decode cX2_sumTrust 46 = .ok (.ifCond .ne 28, 3) := by decide +kernel
theorem dX2_sumTrust_49 : decode cX2_sumTrust 49 = .ok (.aload_n 0, 1) := by decide +kernel
theorem dX2_sumTrust_50 : decode cX2_sumTrust 50 = .ok (.getfield 36, 3) := by decide +kernel
theorem dX2_sumTrust_53 : decode cX2_sumTrust 53 = .ok (.aload_n 0, 1) := by decide +kernel
theorem dX2_sumTrust_54 : decode cX2_sumTrust 54 = .ok (.getfield 33, 3) := by decide +kernel
theorem dX2_sumTrust_57 : decode cX2_sumTrust 57 = .ok (.iload_n 3, 1) := by decide +kernel
theorem dX2_sumTrust_58 : decode cX2_sumTrust 58 = .ok (.iaload, 1) := by decide +kernel
theorem dX2_sumTrust_59 : decode cX2_sumTrust 59 = .ok (.dup2, 1) := by decide +kernel
theorem dX2_sumTrust_60 : decode cX2_sumTrust 60 = .ok (.iaload, 1) := by decide +kernel
theorem dX2_sumTrust_61 : decode cX2_sumTrust 61 = .ok (.aload_n 0, 1) := by decide +kernel
theorem dX2_sumTrust_62 : decode cX2_sumTrust 62 = .ok (.getfield 21, 3) := by decide +kernel
theorem dX2_sumTrust_65 : decode cX2_sumTrust 65 = .ok (.aload_n 0, 1) := by decide +kernel
theorem dX2_sumTrust_66 : decode cX2_sumTrust 66 = .ok (.getfield 27, 3) := by decide +kernel
theorem dX2_sumTrust_69 : decode cX2_sumTrust 69 = .ok (.iload_n 3, 1) := by decide +kernel
theorem dX2_sumTrust_70 : decode cX2_sumTrust 70 = .ok (.iaload, 1) := by decide +kernel
theorem dX2_sumTrust_71 : decode cX2_sumTrust 71 = .ok (.iaload, 1) := by decide +kernel
theorem dX2_sumTrust_72 : decode cX2_sumTrust 72 = .ok (.iadd, 1) := by decide +kernel
theorem dX2_sumTrust_73 : decode cX2_sumTrust 73 = .ok (.iastore, 1) := by decide +kernel
theorem dX2_sumTrust_74 : decode cX2_sumTrust 74 = .ok (.iinc 3 1, 3) := by decide +kernel
theorem dX2_sumTrust_77 : decode cX2_sumTrust 77 = .ok (.goto (-67), 3) := by decide +kernel
theorem dX2_sumTrust_80 : decode cX2_sumTrust 80 = .ok (.return_, 1) := by decide +kernel
theorem dX2_beliefOf_0 : decode cX2_beliefOf 0 = .ok (.aload_n 0, 1) := by decide +kernel
theorem dX2_beliefOf_1 : decode cX2_beliefOf 1 = .ok (.iload_n 1, 1) := by decide +kernel
theorem dX2_beliefOf_2 : decode cX2_beliefOf 2 = .ok (.iload_n 2, 1) := by decide +kernel
theorem dX2_beliefOf_3 : decode cX2_beliefOf 3 = .ok (.invokevirtual 81, 3) := by decide +kernel
theorem dX2_beliefOf_6 : decode cX2_beliefOf 6 = .ok (.iconst 0, 1) := by decide +kernel
theorem dX2_beliefOf_7 : decode cX2_beliefOf 7 = .ok (.istore_n 3, 1) := by decide +kernel
theorem dX2_beliefOf_8 : decode cX2_beliefOf 8 = .ok (.bipush (-4), 2) := by decide +kernel
theorem dX2_beliefOf_10 : decode cX2_beliefOf 10 = .ok (.istore 4, 2) := by decide +kernel
theorem dX2_beliefOf_12 : decode cX2_beliefOf 12 = .ok (.iconst 0, 1) := by decide +kernel
theorem dX2_beliefOf_13 : decode cX2_beliefOf 13 = .ok (.istore 5, 2) := by decide +kernel
theorem dX2_beliefOf_15 : decode cX2_beliefOf 15 = .ok (.iload 5, 2) := by decide +kernel
theorem dX2_beliefOf_17 : decode cX2_beliefOf 17 = .ok (.iconst 4, 1) := by decide +kernel
theorem dX2_beliefOf_18 : decode cX2_beliefOf 18 = .ok (.if_icmp .ge 32, 3) := by decide +kernel
theorem dX2_beliefOf_21 : decode cX2_beliefOf 21 = .ok (.aload_n 0, 1) := by decide +kernel
theorem dX2_beliefOf_22 : decode cX2_beliefOf 22 = .ok (.getfield 36, 3) := by decide +kernel
theorem dX2_beliefOf_25 : decode cX2_beliefOf 25 = .ok (.iload 5, 2) := by decide +kernel
theorem dX2_beliefOf_27 : decode cX2_beliefOf 27 = .ok (.iaload, 1) := by decide +kernel
theorem dX2_beliefOf_28 : decode cX2_beliefOf 28 = .ok (.iload_n 3, 1) := by decide +kernel
theorem dX2_beliefOf_29 : decode cX2_beliefOf 29 = .ok (.if_icmp .le 15, 3) := by decide +kernel
theorem dX2_beliefOf_32 : decode cX2_beliefOf 32 = .ok (.aload_n 0, 1) := by decide +kernel
theorem dX2_beliefOf_33 : decode cX2_beliefOf 33 = .ok (.getfield 36, 3) := by decide +kernel
theorem dX2_beliefOf_36 : decode cX2_beliefOf 36 = .ok (.iload 5, 2) := by decide +kernel
theorem dX2_beliefOf_38 : decode cX2_beliefOf 38 = .ok (.iaload, 1) := by decide +kernel
theorem dX2_beliefOf_39 : decode cX2_beliefOf 39 = .ok (.istore_n 3, 1) := by decide +kernel
theorem dX2_beliefOf_40 : decode cX2_beliefOf 40 = .ok (.iload 5, 2) := by decide +kernel
theorem dX2_beliefOf_42 : decode cX2_beliefOf 42 = .ok (.istore 4, 2) := by decide +kernel
theorem dX2_beliefOf_44 : decode cX2_beliefOf 44 = .ok (.iinc 5 1, 3) := by decide +kernel
theorem dX2_beliefOf_47 : decode cX2_beliefOf 47 = .ok (.goto (-32), 3) := by decide +kernel
theorem dX2_beliefOf_50 : decode cX2_beliefOf 50 = .ok (.iload 4, 2) := by decide +kernel
theorem dX2_beliefOf_52 : decode cX2_beliefOf 52 = .ok (.ireturn, 1) := by decide +kernel
theorem dX2_isContent_0 : decode cX2_isContent 0 = .ok (.aload_n 0, 1) := by decide +kernel
theorem dX2_isContent_1 : decode cX2_isContent 1 = .ok (.iload_n 1, 1) := by decide +kernel
theorem dX2_isContent_2 : decode cX2_isContent 2 = .ok (.aload_n 0, 1) := by decide +kernel
theorem dX2_isContent_3 : decode cX2_isContent 3 = .ok (.getfield 61, 3) := by decide +kernel
theorem dX2_isContent_6 : decode cX2_isContent 6 = .ok (.invokevirtual 85, 3) := by decide +kernel
theorem dX2_isContent_9 : decode cX2_isContent 9 = .ok (.istore_n 2, 1) := by decide +kernel
theorem dX2_isContent_10 : decode cX2_isContent 10 = .ok (.iload_n 2, 1) := by decide +kernel
theorem dX2_isContent_11 : decode cX2_isContent 11 = .ok (.bipush (-4), 2) := by decide +kernel
theorem dX2_isContent_13 : decode cX2_isContent 13 = .ok (.if_icmp .eq 12, 3) := by decide +kernel
theorem dX2_isContent_16 : decode cX2_isContent 16 = .ok (.iload_n 2, 1) := by decide +kernel
theorem dX2_isContent_17 : decode cX2_isContent 17 = .ok (.aload_n 0, 1) := by decide +kernel
theorem dX2_isContent_18 : decode cX2_isContent 18 = .ok (.iload_n 1, 1) := by decide +kernel
theorem dX2_isContent_19 : decode cX2_isContent 19 = .ok (.invokevirtual 88, 3) := by decide +kernel
theorem dX2_isContent_22 : decode cX2_isContent 22 = .ok (.if_icmp .ne 7, 3) := by decide +kernel
theorem dX2_isContent_25 : decode cX2_isContent 25 = .ok (.iconst 1, 1) := by decide +kernel
theorem dX2_isContent_26 : decode cX2_isContent 26 = .ok (.goto 4, 3) := by decide +kernel
theorem dX2_isContent_29 : decode cX2_isContent 29 = .ok (.iconst 0, 1) := by decide +kernel
theorem dX2_isContent_30 : decode cX2_isContent 30 = .ok (.ireturn, 1) := by decide +kernel
theorem dX2_agreeing_0 : decode cX2_agreeing 0 = .ok (.iconst 0, 1) := by decide +kernel
theorem dX2_agreeing_1 : decode cX2_agreeing 1 = .ok (.istore_n 1, 1) := by decide +kernel
theorem dX2_agreeing_2 : decode cX2_agreeing 2 = .ok (.iconst 0, 1) := by decide +kernel
theorem dX2_agreeing_3 : decode cX2_agreeing 3 = .ok (.istore_n 2, 1) := by decide +kernel
theorem dX2_agreeing_4 : decode cX2_agreeing 4 = .ok (.iload_n 2, 1) := by decide +kernel
theorem dX2_agreeing_5 : decode cX2_agreeing 5 = .ok (.aload_n 0, 1) := by decide +kernel
theorem dX2_agreeing_6 : decode cX2_agreeing 6 = .ok (.getfield 42, 3) := by decide +kernel
theorem dX2_agreeing_9 : decode cX2_agreeing 9 = .ok (.if_icmp .ge 27, 3) := by decide +kernel
theorem dX2_agreeing_12 : decode cX2_agreeing 12 = .ok (.iload_n 1, 1) := by decide +kernel
theorem dX2_agreeing_13 : decode cX2_agreeing 13 = .ok (.aload_n 0, 1) := by decide +kernel
theorem dX2_agreeing_14 : decode cX2_agreeing 14 = .ok (.iload_n 2, 1) := by decide +kernel
theorem dX2_agreeing_15 : decode cX2_agreeing 15 = .ok (.invokevirtual 91, 3) := by decide +kernel
theorem dX2_agreeing_18 : decode cX2_agreeing 18 = .ok (.ifCond .eq 9, 3) := by decide +kernel
theorem dX2_agreeing_21 : decode cX2_agreeing 21 = .ok (.iconst 1, 1) := by decide +kernel
theorem dX2_agreeing_22 : decode cX2_agreeing 22 = .ok (.iload_n 2, 1) := by decide +kernel
theorem dX2_agreeing_23 : decode cX2_agreeing 23 = .ok (.ishl, 1) := by decide +kernel
theorem dX2_agreeing_24 : decode cX2_agreeing 24 = .ok (.goto 4, 3) := by decide +kernel
theorem dX2_agreeing_27 : decode cX2_agreeing 27 = .ok (.iconst 0, 1) := by decide +kernel
theorem dX2_agreeing_28 : decode cX2_agreeing 28 = .ok (.ior, 1) := by decide +kernel
theorem dX2_agreeing_29 : decode cX2_agreeing 29 = .ok (.istore_n 1, 1) := by decide +kernel
theorem dX2_agreeing_30 : decode cX2_agreeing 30 = .ok (.iinc 2 1, 3) := by decide +kernel
theorem dX2_agreeing_33 : decode cX2_agreeing 33 = .ok (.goto (-29), 3) := by decide +kernel
theorem dX2_agreeing_36 : decode cX2_agreeing 36 = .ok (.iload_n 1, 1) := by decide +kernel
theorem dX2_agreeing_37 : decode cX2_agreeing 37 = .ok (.ireturn, 1) := by decide +kernel
theorem dX2_standing_0 : decode cX2_standing 0 = .ok (.iconst 0, 1) := by decide +kernel
theorem dX2_standing_1 : decode cX2_standing 1 = .ok (.istore_n 1, 1) := by decide +kernel
theorem dX2_standing_2 : decode cX2_standing 2 = .ok (.iconst 0, 1) := by decide +kernel
theorem dX2_standing_3 : decode cX2_standing 3 = .ok (.istore_n 2, 1) := by decide +kernel
theorem dX2_standing_4 : decode cX2_standing 4 = .ok (.iload_n 2, 1) := by decide +kernel
theorem dX2_standing_5 : decode cX2_standing 5 = .ok (.aload_n 0, 1) := by decide +kernel
theorem dX2_standing_6 : decode cX2_standing 6 = .ok (.getfield 42, 3) := by decide +kernel
theorem dX2_standing_9 : decode cX2_standing 9 = .ok (.if_icmp .ge 38, 3) := by decide +kernel
theorem dX2_standing_12 : decode cX2_standing 12 = .ok (.iload_n 1, 1) := by decide +kernel
theorem dX2_standing_13 : decode cX2_standing 13 = .ok (.aload_n 0, 1) := by decide +kernel
theorem dX2_standing_14 : decode cX2_standing 14 = .ok (.aload_n 0, 1) := by decide +kernel
theorem dX2_standing_15 : decode cX2_standing 15 = .ok (.getfield 15, 3) := by decide +kernel
theorem dX2_standing_18 : decode cX2_standing 18 = .ok (.iload_n 2, 1) := by decide +kernel
theorem dX2_standing_19 : decode cX2_standing 19 = .ok (.iaload, 1) := by decide +kernel
theorem dX2_standing_20 : decode cX2_standing 20 = .ok (.aload_n 0, 1) := by decide +kernel
theorem dX2_standing_21 : decode cX2_standing 21 = .ok (.getfield 18, 3) := by decide +kernel
theorem dX2_standing_24 : decode cX2_standing 24 = .ok (.iload_n 2, 1) := by decide +kernel
theorem dX2_standing_25 : decode cX2_standing 25 = .ok (.iaload, 1) := by decide +kernel
theorem dX2_standing_26 : decode cX2_standing 26 = .ok (.invokevirtual 95, 3) := by decide +kernel
theorem dX2_standing_29 : decode cX2_standing 29 = .ok (.ifCond .eq 9, 3) := by decide +kernel
theorem dX2_standing_32 : decode cX2_standing 32 = .ok (.iconst 1, 1) := by decide +kernel
theorem dX2_standing_33 : decode cX2_standing 33 = .ok (.iload_n 2, 1) := by decide +kernel
theorem dX2_standing_34 : decode cX2_standing 34 = .ok (.ishl, 1) := by decide +kernel
theorem dX2_standing_35 : decode cX2_standing 35 = .ok (.goto 4, 3) := by decide +kernel
theorem dX2_standing_38 : decode cX2_standing 38 = .ok (.iconst 0, 1) := by decide +kernel
theorem dX2_standing_39 : decode cX2_standing 39 = .ok (.ior, 1) := by decide +kernel
theorem dX2_standing_40 : decode cX2_standing 40 = .ok (.istore_n 1, 1) := by decide +kernel
theorem dX2_standing_41 : decode cX2_standing 41 = .ok (.iinc 2 1, 3) := by decide +kernel
theorem dX2_standing_44 : decode cX2_standing 44 = .ok (.goto (-40), 3) := by decide +kernel
theorem dX2_standing_47 : decode cX2_standing 47 = .ok (.iload_n 1, 1) := by decide +kernel
theorem dX2_standing_48 : decode cX2_standing 48 = .ok (.ireturn, 1) := by decide +kernel
theorem dX2_moveHoof_0 : decode cX2_moveHoof 0 = .ok (.aload_n 0, 1) := by decide +kernel
theorem dX2_moveHoof_1 : decode cX2_moveHoof 1 = .ok (.iload_n 1, 1) := by decide +kernel
theorem dX2_moveHoof_2 : decode cX2_moveHoof 2 = .ok (.aload_n 0, 1) := by decide +kernel
theorem dX2_moveHoof_3 : decode cX2_moveHoof 3 = .ok (.getfield 61, 3) := by decide +kernel
theorem dX2_moveHoof_6 : decode cX2_moveHoof 6 = .ok (.invokevirtual 85, 3) := by decide +kernel
theorem dX2_moveHoof_9 : decode cX2_moveHoof 9 = .ok (.istore_n 2, 1) := by decide +kernel
theorem dX2_moveHoof_10 : decode cX2_moveHoof 10 = .ok (.aload_n 0, 1) := by decide +kernel
theorem dX2_moveHoof_11 : decode cX2_moveHoof 11 = .ok (.iload_n 1, 1) := by decide +kernel
theorem dX2_moveHoof_12 : decode cX2_moveHoof 12 = .ok (.invokevirtual 88, 3) := by decide +kernel
theorem dX2_moveHoof_15 : decode cX2_moveHoof 15 = .ok (.iload_n 2, 1) := by decide +kernel
theorem dX2_moveHoof_16 : decode cX2_moveHoof 16 = .ok (.isub, 1) := by decide +kernel
theorem dX2_moveHoof_17 : decode cX2_moveHoof 17 = .ok (.invokestatic 99, 3) := by decide +kernel
theorem dX2_moveHoof_20 : decode cX2_moveHoof 20 = .ok (.istore_n 3, 1) := by decide +kernel
theorem dX2_moveHoof_21 : decode cX2_moveHoof 21 = .ok (.iload_n 2, 1) := by decide +kernel
theorem dX2_moveHoof_22 : decode cX2_moveHoof 22 = .ok (.bipush (-4), 2) := by decide +kernel
theorem dX2_moveHoof_24 : decode cX2_moveHoof 24 = .ok (.if_icmp .eq 7, 3) := by decide +kernel
theorem dX2_moveHoof_27 : decode cX2_moveHoof 27 = .ok (.iload_n 3, 1) := by decide +kernel
theorem dX2_moveHoof_28 : decode cX2_moveHoof 28 = .ok (.ifCond .ne 5, 3) := by decide +kernel
theorem dX2_moveHoof_31 : decode cX2_moveHoof 31 = .ok (.iconst 0, 1) := by decide +kernel
theorem dX2_moveHoof_32 : decode cX2_moveHoof 32 = .ok (.ireturn, 1) := by decide +kernel
theorem dX2_moveHoof_33 : decode cX2_moveHoof 33 = .ok (.iconst 0, 1) := by decide +kernel
theorem dX2_moveHoof_34 : decode cX2_moveHoof 34 = .ok (.istore 4, 2) := by decide +kernel
theorem dX2_moveHoof_36 : decode cX2_moveHoof 36 = .ok (.iload 4, 2) := by decide +kernel
theorem dX2_moveHoof_38 : decode cX2_moveHoof 38 = .ok (.iconst 4, 1) := by decide +kernel
theorem dX2_moveHoof_39 : decode cX2_moveHoof 39 = .ok (.if_icmp .ge 67, 3) := by decide +kernel
theorem dX2_moveHoof_42 : decode cX2_moveHoof 42 = .ok (.aload_n 0, 1) := by decide +kernel
theorem dX2_moveHoof_43 : decode cX2_moveHoof 43 = .ok (.getfield 15, 3) := by decide +kernel
theorem dX2_moveHoof_46 : decode cX2_moveHoof 46 = .ok (.iload_n 1, 1) := by decide +kernel
theorem dX2_moveHoof_47 : decode cX2_moveHoof 47 = .ok (.iaload, 1) := by decide +kernel
theorem dX2_moveHoof_48 : decode cX2_moveHoof 48 = .ok (.iconst 1, 1) := by decide +kernel
theorem dX2_moveHoof_49 : decode cX2_moveHoof 49 = .ok (.iload 4, 2) := by decide +kernel
theorem dX2_moveHoof_51 : decode cX2_moveHoof 51 = .ok (.ishl, 1) := by decide +kernel
theorem dX2_moveHoof_52 : decode cX2_moveHoof 52 = .ok (.ixor, 1) := by decide +kernel
theorem dX2_moveHoof_53 : decode cX2_moveHoof 53 = .ok (.istore 5, 2) := by decide +kernel
theorem dX2_moveHoof_55 : decode cX2_moveHoof 55 = .ok (.aload_n 0, 1) := by decide +kernel
theorem dX2_moveHoof_56 : decode cX2_moveHoof 56 = .ok (.getfield 9, 3) := by decide +kernel
theorem dX2_moveHoof_59 : decode cX2_moveHoof 59 = .ok (.iload_n 1, 1) := by decide +kernel
theorem dX2_moveHoof_60 : decode cX2_moveHoof 60 = .ok (.iaload, 1) := by decide +kernel
theorem dX2_moveHoof_61 : decode cX2_moveHoof 61 = .ok (.iload 5, 2) := by decide +kernel
theorem dX2_moveHoof_63 : decode cX2_moveHoof 63 = .ok (.invokestatic 73, 3) := by decide +kernel
theorem dX2_moveHoof_66 : decode cX2_moveHoof 66 = .ok (.iload_n 2, 1) := by decide +kernel
theorem dX2_moveHoof_67 : decode cX2_moveHoof 67 = .ok (.isub, 1) := by decide +kernel
theorem dX2_moveHoof_68 : decode cX2_moveHoof 68 = .ok (.invokestatic 99, 3) := by decide +kernel
theorem dX2_moveHoof_71 : decode cX2_moveHoof 71 = .ok (.iload_n 3, 1) := by decide +kernel
theorem dX2_moveHoof_72 : decode cX2_moveHoof 72 = .ok (.if_icmp .ge 28, 3) := by decide +kernel
theorem dX2_moveHoof_75 : decode cX2_moveHoof 75 = .ok (.aload_n 0, 1) := by decide +kernel
theorem dX2_moveHoof_76 : decode cX2_moveHoof 76 = .ok (.iload 5, 2) := by decide +kernel
theorem dX2_moveHoof_78 : decode cX2_moveHoof 78 = .ok (.aload_n 0, 1) := by decide +kernel
theorem dX2_moveHoof_79 : decode cX2_moveHoof 79 = .ok (.getfield 18, 3) := by decide +kernel
theorem dX2_moveHoof_82 : decode cX2_moveHoof 82 = .ok (.iload_n 1, 1) := by decide +kernel
theorem dX2_moveHoof_83 : decode cX2_moveHoof 83 = .ok (.iaload, 1) := by decide +kernel
theorem dX2_moveHoof_84 : decode cX2_moveHoof 84 = .ok (.invokevirtual 95, 3) := by decide +kernel
theorem dX2_moveHoof_87 : decode cX2_moveHoof 87 = .ok (.ifCond .eq 13, 3) := by decide +kernel
theorem dX2_moveHoof_90 : decode cX2_moveHoof 90 = .ok (.aload_n 0, 1) := by decide +kernel
theorem dX2_moveHoof_91 : decode cX2_moveHoof 91 = .ok (.getfield 15, 3) := by decide +kernel
theorem dX2_moveHoof_94 : decode cX2_moveHoof 94 = .ok (.iload_n 1, 1) := by decide +kernel
theorem dX2_moveHoof_95 : decode cX2_moveHoof 95 = .ok (.iload 5, 2) := by decide +kernel
theorem dX2_moveHoof_97 : decode cX2_moveHoof 97 = .ok (.iastore, 1) := by decide +kernel
theorem dX2_moveHoof_98 : decode cX2_moveHoof 98 = .ok (.iconst 1, 1) := by decide +kernel
theorem dX2_moveHoof_99 : decode cX2_moveHoof 99 = .ok (.ireturn, 1) := by decide +kernel
theorem dX2_moveHoof_100 : decode cX2_moveHoof 100 = .ok (.iinc 4 1, 3) := by decide +kernel
theorem dX2_moveHoof_103 : decode cX2_moveHoof 103 = .ok (.goto (-67), 3) := by decide +kernel
theorem dX2_moveHoof_106 : decode cX2_moveHoof 106 = .ok (.iconst 0, 1) := by decide +kernel
theorem dX2_moveHoof_107 : decode cX2_moveHoof 107 = .ok (.ireturn, 1) := by decide +kernel
theorem dX2_passDay_0 : decode cX2_passDay 0 = .ok (.iconst 0, 1) := by decide +kernel
theorem dX2_passDay_1 : decode cX2_passDay 1 = .ok (.istore_n 1, 1) := by decide +kernel
theorem dX2_passDay_2 : decode cX2_passDay 2 = .ok (.iconst 0, 1) := by decide +kernel
theorem dX2_passDay_3 : decode cX2_passDay 3 = .ok (.istore_n 2, 1) := by decide +kernel
theorem dX2_passDay_4 : decode cX2_passDay 4 = .ok (.iload_n 2, 1) := by decide +kernel
theorem dX2_passDay_5 : decode cX2_passDay 5 = .ok (.aload_n 0, 1) := by decide +kernel
theorem dX2_passDay_6 : decode cX2_passDay 6 = .ok (.getfield 42, 3) := by decide +kernel
theorem dX2_passDay_9 : decode cX2_passDay 9 = .ok (.if_icmp .ge 17, 3) := by decide +kernel
theorem dX2_passDay_12 : decode cX2_passDay 12 = .ok (.iload_n 1, 1) := by decide +kernel
theorem dX2_passDay_13 : decode cX2_passDay 13 = .ok (.aload_n 0, 1) := by decide +kernel
theorem dX2_passDay_14 : decode cX2_passDay 14 = .ok (.iload_n 2, 1) := by decide +kernel
theorem dX2_passDay_15 : decode cX2_passDay 15 = .ok (.invokevirtual 104, 3) := by decide +kernel
theorem dX2_passDay_18 : decode cX2_passDay 18 = .ok (.iadd, 1) := by decide +kernel
theorem dX2_passDay_19 : decode cX2_passDay 19 = .ok (.istore_n 1, 1) := by decide +kernel
theorem dX2_passDay_20 : decode cX2_passDay 20 = .ok (.iinc 2 1, 3) := by decide +kernel
theorem dX2_passDay_23 : decode cX2_passDay 23 = .ok (.goto (-19), 3) := by decide +kernel
theorem dX2_passDay_26 : decode cX2_passDay 26 = .ok (.aload_n 0, 1) := by decide +kernel
theorem dX2_passDay_27 : decode cX2_passDay 27 = .ok (.sipush 9999, 3) := by decide +kernel
theorem dX2_passDay_30 : decode cX2_passDay 30 = .ok (.aload_n 0, 1) := by decide +kernel
theorem dX2_passDay_31 : decode cX2_passDay 31 = .ok (.getfield 64, 3) := by decide +kernel
theorem dX2_passDay_34 : decode cX2_passDay 34 = .ok (.iload_n 1, 1) := by decide +kernel
theorem dX2_passDay_35 : decode cX2_passDay 35 = .ok (.iadd, 1) := by decide +kernel
theorem dX2_passDay_36 : decode cX2_passDay 36 = .ok (.invokestatic 107, 3) := by decide +kernel
theorem dX2_passDay_39 : decode cX2_passDay 39 = .ok (.putfield 64, 3) := by decide +kernel
theorem dX2_passDay_42 : decode cX2_passDay 42 = .ok (.aload_n 0, 1) := by decide +kernel
theorem dX2_passDay_43 : decode cX2_passDay 43 = .ok (.dup, 1) := by decide +kernel
theorem dX2_passDay_44 : decode cX2_passDay 44 = .ok (.getfield 61, 3) := by decide +kernel
theorem dX2_passDay_47 : decode cX2_passDay 47 = .ok (.iconst 1, 1) := by decide +kernel
theorem dX2_passDay_48 : decode cX2_passDay 48 = .ok (.iadd, 1) := by decide +kernel
theorem dX2_passDay_49 : decode cX2_passDay 49 = .ok (.putfield 61, 3) := by decide +kernel
theorem dX2_passDay_52 : decode cX2_passDay 52 = .ok (.iload_n 1, 1) := by decide +kernel
theorem dX2_passDay_53 : decode cX2_passDay 53 = .ok (.ireturn, 1) := by decide +kernel
theorem dX2_passDays_0 : decode cX2_passDays 0 = .ok (.aload_n 0, 1) := by decide +kernel
theorem dX2_passDays_1 : decode cX2_passDays 1 = .ok (.getfield 61, 3) := by decide +kernel
theorem dX2_passDays_4 : decode cX2_passDays 4 = .ok (.iload_n 1, 1) := by decide +kernel
theorem dX2_passDays_5 : decode cX2_passDays 5 = .ok (.iadd, 1) := by decide +kernel
theorem dX2_passDays_6 : decode cX2_passDays 6 = .ok (.istore_n 2, 1) := by decide +kernel
theorem dX2_passDays_7 : decode cX2_passDays 7 = .ok (.iconst 0, 1) := by decide +kernel
theorem dX2_passDays_8 : decode cX2_passDays 8 = .ok (.istore_n 3, 1) := by decide +kernel
theorem dX2_passDays_9 : decode cX2_passDays 9 = .ok (.iconst 0, 1) := by decide +kernel
theorem dX2_passDays_10 : decode cX2_passDays 10 = .ok (.istore 4, 2) := by decide +kernel
theorem dX2_passDays_12 : decode cX2_passDays 12 = .ok (.iload 4, 2) := by decide +kernel
theorem dX2_passDays_14 : decode cX2_passDays 14 = .ok (.iload_n 1, 1) := by decide +kernel
theorem dX2_passDays_15 : decode cX2_passDays 15 = .ok (.if_icmp .ge 42, 3) := by decide +kernel
theorem dX2_passDays_18 : decode cX2_passDays 18 = .ok (.aload_n 0, 1) := by decide +kernel
theorem dX2_passDays_19 : decode cX2_passDays 19 = .ok (.getfield 61, 3) := by decide +kernel
theorem dX2_passDays_22 : decode cX2_passDays 22 = .ok (.iload_n 2, 1) := by decide +kernel
theorem dX2_passDays_23 : decode cX2_passDays 23 = .ok (.if_icmp .ge 34, 3) := by decide +kernel
theorem dX2_passDays_26 : decode cX2_passDays 26 = .ok (.aload_n 0, 1) := by decide +kernel
theorem dX2_passDays_27 : decode cX2_passDays 27 = .ok (.invokevirtual 110, 3) := by decide +kernel
theorem dX2_passDays_30 : decode cX2_passDays 30 = .ok (.istore 5, 2) := by decide +kernel
theorem dX2_passDays_32 : decode cX2_passDays 32 = .ok (.iload_n 3, 1) := by decide +kernel
theorem dX2_passDays_33 : decode cX2_passDays 33 = .ok (.iload 5, 2) := by decide +kernel
theorem dX2_passDays_35 : decode cX2_passDays 35 = .ok (.iadd, 1) := by decide +kernel
theorem dX2_passDays_36 : decode cX2_passDays 36 = .ok (.istore_n 3, 1) := by decide +kernel
theorem dX2_passDays_37 : decode cX2_passDays 37 = .ok (.iload 5, 2) := by decide +kernel
theorem dX2_passDays_39 : decode cX2_passDays 39 = .ok (.ifCond .ne 12, 3) := by decide +kernel
theorem dX2_passDays_42 : decode cX2_passDays 42 = .ok (.aload_n 0, 1) := by decide +kernel
theorem dX2_passDays_43 : decode cX2_passDays 43 = .ok (.aload_n 0, 1) := by decide +kernel
theorem dX2_passDays_44 : decode cX2_passDays 44 = .ok (.iload_n 2, 1) := by decide +kernel
theorem dX2_passDays_45 : decode cX2_passDays 45 = .ok (.invokevirtual 114, 3) := by decide +kernel
theorem dX2_passDays_48 : decode cX2_passDays 48 = .ok (.putfield 61, 3) := by decide +kernel
theorem dX2_passDays_51 : decode cX2_passDays 51 = .ok (.iinc 4 1, 3) := by decide +kernel
theorem dX2_passDays_54 : decode cX2_passDays 54 = .ok (.goto (-42), 3) := by decide +kernel
theorem dX2_passDays_57 : decode cX2_passDays 57 = .ok (.iload_n 3, 1) := by decide +kernel
theorem dX2_passDays_58 : decode cX2_passDays 58 = .ok (.ireturn, 1) := by decide +kernel
theorem dX2_dayOfNextReport_0 : decode cX2_dayOfNextReport 0 = .ok (.iload_n 1, 1) := by decide +kernel
theorem dX2_dayOfNextReport_1 : decode cX2_dayOfNextReport 1 = .ok (.istore_n 2, 1) := by decide +kernel
theorem dX2_dayOfNextReport_2 : decode cX2_dayOfNextReport 2 = .ok (.iconst 0, 1) := by decide +kernel
theorem dX2_dayOfNextReport_3 : decode cX2_dayOfNextReport 3 = .ok (.istore_n 3, 1) := by decide +kernel
theorem dX2_dayOfNextReport_4 : decode cX2_dayOfNextReport 4 = .ok (.iload_n 3, 1) := by decide +kernel
theorem dX2_dayOfNextReport_5 : decode cX2_dayOfNextReport 5 = .ok (.aload_n 0, 1) := by decide +kernel
theorem dX2_dayOfNextReport_6 : decode cX2_dayOfNextReport 6 = .ok (.getfield 55, 3) := by decide +kernel
theorem dX2_dayOfNextReport_9 : decode cX2_dayOfNextReport 9 = .ok (.if_icmp .ge 39, 3) := by decide +kernel
theorem dX2_dayOfNextReport_12 : decode cX2_dayOfNextReport 12 = .ok (.aload_n 0, 1) := by decide +kernel
theorem dX2_dayOfNextReport_13 : decode cX2_dayOfNextReport 13 = .ok (.getfield 24, 3) := by decide +kernel
theorem dX2_dayOfNextReport_16 : decode cX2_dayOfNextReport 16 = .ok (.iload_n 3, 1) := by decide +kernel
theorem dX2_dayOfNextReport_17 : decode cX2_dayOfNextReport 17 = .ok (.iaload, 1) := by decide +kernel
theorem dX2_dayOfNextReport_18 : decode cX2_dayOfNextReport 18 = .ok (.aload_n 0, 1) := by decide +kernel
theorem dX2_dayOfNextReport_19 : decode cX2_dayOfNextReport 19 = .ok (.getfield 61, 3) := by decide +kernel
theorem dX2_dayOfNextReport_22 : decode cX2_dayOfNextReport 22 = .ok (.if_icmp .lt 20, 3) := by decide +kernel
theorem dX2_dayOfNextReport_25 : decode cX2_dayOfNextReport 25 = .ok (.aload_n 0, 1) := by decide +kernel
theorem dX2_dayOfNextReport_26 : decode cX2_dayOfNextReport 26 = .ok (.getfield 24, 3) := by decide +kernel
theorem dX2_dayOfNextReport_29 : decode cX2_dayOfNextReport 29 = .ok (.iload_n 3, 1) := by decide +kernel
theorem dX2_dayOfNextReport_30 : decode cX2_dayOfNextReport 30 = .ok (.iaload, 1) := by decide +kernel
theorem dX2_dayOfNextReport_31 : decode cX2_dayOfNextReport 31 = .ok (.iload_n 2, 1) := by decide +kernel
theorem dX2_dayOfNextReport_32 : decode cX2_dayOfNextReport 32 = .ok (.if_icmp .ge 10, 3) := by decide +kernel
theorem dX2_dayOfNextReport_35 : decode cX2_dayOfNextReport 35 = .ok (.aload_n 0, 1) := by decide +kernel
theorem dX2_dayOfNextReport_36 : decode cX2_dayOfNextReport 36 = .ok (.getfield 24, 3) := by decide +kernel
theorem dX2_dayOfNextReport_39 : decode cX2_dayOfNextReport 39 = .ok (.iload_n 3, 1) := by decide +kernel
theorem dX2_dayOfNextReport_40 : decode cX2_dayOfNextReport 40 = .ok (.iaload, 1) := by decide +kernel
theorem dX2_dayOfNextReport_41 : decode cX2_dayOfNextReport 41 = .ok (.istore_n 2, 1) := by decide +kernel
theorem dX2_dayOfNextReport_42 : decode cX2_dayOfNextReport 42 = .ok (.iinc 3 1, 3) := by decide +kernel
theorem dX2_dayOfNextReport_45 : decode cX2_dayOfNextReport 45 = .ok (.goto (-41), 3) := by decide +kernel
theorem dX2_dayOfNextReport_48 : decode cX2_dayOfNextReport 48 = .ok (.iload_n 2, 1) := by decide +kernel
theorem dX2_dayOfNextReport_49 : decode cX2_dayOfNextReport 49 = .ok (.ireturn, 1) := by decide +kernel
theorem dX3_init_0 : decode cX3_init 0 = .ok (.aload_n 0, 1) := by decide +kernel
theorem dX3_init_1 : decode cX3_init 1 = .ok (.invokespecial 3, 3) := by decide +kernel
theorem dX3_init_4 : decode cX3_init 4 = .ok (.aload_n 0, 1) := by decide +kernel
theorem dX3_init_5 : decode cX3_init 5 = .ok (.sipush 160, 3) := by decide +kernel
theorem dX3_init_8 : decode cX3_init 8 = .ok (.newarray .byte, 2) := by decide +kernel
theorem dX3_init_10 : decode cX3_init 10 = .ok (.putfield 11, 3) := by decide +kernel
theorem dX3_init_13 : decode cX3_init 13 = .ok (.return_, 1) := by decide +kernel
theorem dX3_append_0 : decode cX3_append 0 = .ok (.aload_n 0, 1) := by decide +kernel
theorem dX3_append_1 : decode cX3_append 1 = .ok (.getfield 15, 3) := by decide +kernel
theorem dX3_append_4 : decode cX3_append 4 = .ok (.sipush 160, 3) := by decide +kernel
theorem dX3_append_7 : decode cX3_append 7 = .ok (.if_icmp .lt 5, 3) := by decide +kernel
theorem dX3_append_10 : decode cX3_append 10 = .ok (.iconst 0, 1) := by decide +kernel
theorem dX3_append_11 : decode cX3_append 11 = .ok (.ireturn, 1) := by decide +kernel
theorem dX3_append_12 : decode cX3_append 12 = .ok (.aload_n 0, 1) := by decide +kernel
theorem dX3_append_13 : decode cX3_append 13 = .ok (.getfield 11, 3) := by decide +kernel
theorem dX3_append_16 : decode cX3_append 16 = .ok (.aload_n 0, 1) := by decide +kernel
theorem dX3_append_17 : decode cX3_append 17 = .ok (.getfield 15, 3) := by decide +kernel
theorem dX3_append_20 : decode cX3_append 20 = .ok (.iload_n 1, 1) := by decide +kernel
theorem dX3_append_21 : decode cX3_append 21 = .ok (.i2b, 1) := by decide +kernel
theorem dX3_append_22 : decode cX3_append 22 = .ok (.bastore, 1) := by decide +kernel
theorem dX3_append_23 : decode cX3_append 23 = .ok (.aload_n 0, 1) := by decide +kernel
theorem dX3_append_24 : decode cX3_append 24 = .ok (.dup, 1) := by decide +kernel
theorem dX3_append_25 : decode cX3_append 25 = .ok (.getfield 15, 3) := by decide +kernel
theorem dX3_append_28 : decode cX3_append 28 = .ok (.iconst 1, 1) := by decide +kernel
theorem dX3_append_29 : decode cX3_append 29 = .ok (.iadd, 1) := by decide +kernel
theorem dX3_append_30 : decode cX3_append 30 = .ok (.putfield 15, 3) := by decide +kernel
theorem dX3_append_33 : decode cX3_append 33 = .ok (.iconst 1, 1) := by decide +kernel
theorem dX3_append_34 : decode cX3_append 34 = .ok (.ireturn, 1) := by decide +kernel
theorem dX3_parse_0 : decode cX3_parse 0 = .ok (.aload_n 1, 1) := by decide +kernel
theorem dX3_parse_1 : decode cX3_parse 1 = .ok (.invokevirtual 19, 3) := by decide +kernel
theorem dX3_parse_4 : decode cX3_parse 4 = .ok (.aload_n 0, 1) := by decide +kernel
theorem dX3_parse_5 : decode cX3_parse 5 = .ok (.iconst 0, 1) := by decide +kernel
theorem dX3_parse_6 : decode cX3_parse 6 = .ok (.putfield 24, 3) := by decide +kernel
theorem dX3_parse_9 : decode cX3_parse 9 = .ok (.aload_n 0, 1) := by decide +kernel
theorem dX3_parse_10 : decode cX3_parse 10 = .ok (.iconst 0, 1) := by decide +kernel
theorem dX3_parse_11 : decode cX3_parse 11 = .ok (.putfield 27, 3) := by decide +kernel
theorem dX3_parse_14 : decode cX3_parse 14 = .ok (.aload_n 0, 1) := by decide +kernel
theorem dX3_parse_15 : decode cX3_parse 15 = .ok (.iconst 0, 1) := by decide +kernel
theorem dX3_parse_16 : decode cX3_parse 16 = .ok (.putfield 30, 3) := by decide +kernel
theorem dX3_parse_19 : decode cX3_parse 19 = .ok (.aload_n 0, 1) := by decide +kernel
theorem dX3_parse_20 : decode cX3_parse 20 = .ok (.iconst 0, 1) := by decide +kernel
theorem dX3_parse_21 : decode cX3_parse 21 = .ok (.putfield 33, 3) := by decide +kernel
theorem dX3_parse_24 : decode cX3_parse 24 = .ok (.aload_n 0, 1) := by decide +kernel
theorem dX3_parse_25 : decode cX3_parse 25 = .ok (.iconst 0, 1) := by decide +kernel
theorem dX3_parse_26 : decode cX3_parse 26 = .ok (.putfield 36, 3) := by decide +kernel
theorem dX3_parse_29 : decode cX3_parse 29 = .ok (.aload_n 0, 1) := by decide +kernel
theorem dX3_parse_30 : decode cX3_parse 30 = .ok (.iconst 0, 1) := by decide +kernel
theorem dX3_parse_31 : decode cX3_parse 31 = .ok (.putfield 40, 3) := by decide +kernel
theorem dX3_parse_34 : decode cX3_parse 34 = .ok (.aload_n 0, 1) := by decide +kernel
theorem dX3_parse_35 : decode cX3_parse 35 = .ok (.invokevirtual 43, 3) := by decide +kernel
theorem dX3_parse_38 : decode cX3_parse 38 = .ok (.iconst 0, 1) := by decide +kernel
theorem dX3_parse_39 : decode cX3_parse 39 = .ok (.istore_n 2, 1) := by decide +kernel
theorem dX3_parse_40 : decode cX3_parse 40 = .ok (.iload_n 2, 1) := by decide +kernel
theorem dX3_parse_41 : decode cX3_parse 41 = .ok (.sipush 160, 3) := by decide +kernel
theorem dX3_parse_44 : decode cX3_parse 44 = .ok (.if_icmp .ge 42, 3) := by decide +kernel
theorem dX3_parse_47 : decode cX3_parse 47 = .ok (.aload_n 0, 1) := by decide +kernel
theorem dX3_parse_48 : decode cX3_parse 48 = .ok (.getfield 24, 3) := by decide +kernel
theorem dX3_parse_51 : decode cX3_parse 51 = .ok (.ifCond .ne 35, 3) := by decide +kernel
theorem dX3_parse_54 : decode cX3_parse 54 = .ok (.aload_n 0, 1) := by decide +kernel
theorem dX3_parse_55 : decode cX3_parse 55 = .ok (.getfield 46, 3) := by decide +kernel
theorem dX3_parse_58 : decode cX3_parse 58 = .ok (.ifCond .eq 28, 3) := by decide +kernel
theorem dX3_parse_61 : decode cX3_parse 61 = .ok (.aload_n 0, 1) := by decide +kernel
theorem dX3_parse_62 : decode cX3_parse 62 = .ok (.aload_n 1, 1) := by decide +kernel
theorem dX3_parse_63 : decode cX3_parse 63 = .ok (.invokevirtual 49, 3) := by decide +kernel
theorem dX3_parse_66 : decode cX3_parse 66 = .ok (.aload_n 0, 1) := by decide +kernel
theorem dX3_parse_67 : decode cX3_parse 67 = .ok (.dup, 1) := by decide +kernel
theorem dX3_parse_68 : decode cX3_parse 68 = .ok (.getfield 30, 3) := by decide +kernel
theorem dX3_parse_71 : decode cX3_parse 71 = .ok (.iconst 1, 1) := by decide +kernel
theorem dX3_parse_72 : decode cX3_parse 72 = .ok (.iadd, 1) := by decide +kernel
theorem dX3_parse_73 : decode cX3_parse 73 = .ok (.putfield 30, 3) := by decide +kernel
theorem dX3_parse_76 : decode cX3_parse 76 = .ok (.aload_n 0, 1) := by decide +kernel
theorem dX3_parse_77 : decode cX3_parse 77 = .ok (.invokevirtual 43, 3) := by decide +kernel
theorem dX3_parse_80 : decode cX3_parse 80 = .ok (.iinc 2 1, 3) := by decide +kernel
theorem dX3_parse_83 : decode cX3_parse 83 = .ok (.goto (-43), 3) := by decide +kernel
theorem dX3_parse_86 : decode cX3_parse 86 = .ok (.aload_n 0, 1) := by decide +kernel
theorem dX3_parse_87 : decode cX3_parse 87 = .ok (.getfield 24, 3) := by decide +kernel
theorem dX3_parse_90 : decode cX3_parse 90 = .ok (.ifCond .ne 20, 3) := by decide +kernel
theorem dX3_parse_93 : decode cX3_parse 93 = .ok (.aload_n 1, 1) := by decide +kernel
theorem dX3_parse_94 : decode cX3_parse 94 = .ok (.invokestatic 53, 3) := by decide +kernel
theorem dX3_parse_97 : decode cX3_parse 97 = .ok (.ifCond .eq 13, 3) := by decide +kernel
theorem dX3_parse_100 : decode cX3_parse 100 = .ok (.aload_n 0, 1) := by decide +kernel
theorem dX3_parse_101 : decode cX3_parse 101 = .ok (.bipush 6, 2) := by decide +kernel
theorem dX3_parse_103 : decode cX3_parse 103 = .ok (.aload_n 0, 1) := by decide +kernel
theorem dX3_parse_104 : decode cX3_parse 104 = .ok (.getfield 15, 3) := by decide +kernel
theorem dX3_parse_107 : decode cX3_parse 107 = .ok (.invokevirtual 57, 3) := by decide +kernel
theorem dX3_parse_110 : decode cX3_parse 110 = .ok (.return_, 1) := by decide +kernel
theorem dX3_fail_0 : decode cX3_fail 0 = .ok (.aload_n 0, 1) := by decide +kernel
theorem dX3_fail_1 : decode cX3_fail 1 = .ok (.getfield 24, 3) := by decide +kernel
theorem dX3_fail_4 : decode cX3_fail 4 = .ok (.ifCond .ne 13, 3) := by decide +kernel
theorem dX3_fail_7 : decode cX3_fail 7 = .ok (.aload_n 0, 1) := by decide +kernel
theorem dX3_fail_8 : decode cX3_fail 8 = .ok (.iload_n 1, 1) := by decide +kernel
theorem dX3_fail_9 : decode cX3_fail 9 = .ok (.putfield 24, 3) := by decide +kernel
theorem dX3_fail_12 : decode cX3_fail 12 = .ok (.aload_n 0, 1) := by decide +kernel
theorem dX3_fail_13 : decode cX3_fail 13 = .ok (.iload_n 2, 1) := by decide +kernel
theorem dX3_fail_14 : decode cX3_fail 14 = .ok (.putfield 27, 3) := by decide +kernel
theorem dX3_fail_17 : decode cX3_fail 17 = .ok (.return_, 1) := by decide +kernel
theorem dX3_byteAt_0 : decode cX3_byteAt 0 = .ok (.iload_n 1, 1) := by decide +kernel
theorem dX3_byteAt_1 : decode cX3_byteAt 1 = .ok (.ifCond .lt 27, 3) := by decide +kernel
theorem dX3_byteAt_4 : decode cX3_byteAt 4 = .ok (.iload_n 1, 1) := by decide +kernel
theorem dX3_byteAt_5 : decode cX3_byteAt 5 = .ok (.aload_n 0, 1) := by decide +kernel
theorem dX3_byteAt_6 : decode cX3_byteAt 6 = .ok (.getfield 15, 3) := by decide +kernel
theorem dX3_byteAt_9 : decode cX3_byteAt 9 = .ok (.if_icmp .ge 19, 3) := by decide +kernel
theorem dX3_byteAt_12 : decode cX3_byteAt 12 = .ok (.iload_n 1, 1) := by decide +kernel
theorem dX3_byteAt_13 : decode cX3_byteAt 13 = .ok (.sipush 160, 3) := by decide +kernel
theorem dX3_byteAt_16 : decode cX3_byteAt 16 = .ok (.if_icmp .ge 12, 3) := by decide +kernel
theorem dX3_byteAt_19 : decode cX3_byteAt 19 = .ok (.aload_n 0, 1) := by decide +kernel
theorem dX3_byteAt_20 : decode cX3_byteAt 20 = .ok (.getfield 11, 3) := by decide +kernel
theorem dX3_byteAt_23 : decode cX3_byteAt 23 = .ok (.iload_n 1, 1) := by decide +kernel
theorem dX3_byteAt_24 : decode cX3_byteAt 24 = .ok (.baload, 1) := by decide +kernel
theorem dX3_byteAt_25 : decode cX3_byteAt 25 = .ok (.goto 4, 3) := by decide +kernel
theorem dX3_byteAt_28 : decode cX3_byteAt 28 = .ok (.iconst (-1), 1) := by decide +kernel
theorem dX3_byteAt_29 : decode cX3_byteAt 29 = .ok (.ireturn, 1) := by decide +kernel
theorem dX3_isLetter_0 : decode cX3_isLetter 0 = .ok (.iload_n 0, 1) := by decide +kernel
theorem dX3_isLetter_1 : decode cX3_isLetter 1 = .ok (.bipush 97, 2) := by decide +kernel
theorem dX3_isLetter_3 : decode cX3_isLetter 3 = .ok (.if_icmp .lt 13, 3) := by decide +kernel
theorem dX3_isLetter_6 : decode cX3_isLetter 6 = .ok (.iload_n 0, 1) := by decide +kernel
theorem dX3_isLetter_7 : decode cX3_isLetter 7 = .ok (.bipush 122, 2) := by decide +kernel
theorem dX3_isLetter_9 : decode cX3_isLetter 9 = .ok (.if_icmp .gt 7, 3) := by decide +kernel
theorem dX3_isLetter_12 : decode cX3_isLetter 12 = .ok (.iconst 1, 1) := by decide +kernel
theorem dX3_isLetter_13 : decode cX3_isLetter 13 = .ok (.goto 4, 3) := by decide +kernel
theorem dX3_isLetter_16 : decode cX3_isLetter 16 = .ok (.iconst 0, 1) := by decide +kernel
theorem dX3_isLetter_17 : decode cX3_isLetter 17 = .ok (.ireturn, 1) := by decide +kernel
theorem dX3_isFigure_0 : decode cX3_isFigure 0 = .ok (.iload_n 0, 1) := by decide +kernel
theorem dX3_isFigure_1 : decode cX3_isFigure 1 = .ok (.bipush 48, 2) := by decide +kernel
theorem dX3_isFigure_3 : decode cX3_isFigure 3 = .ok (.if_icmp .lt 13, 3) := by decide +kernel
theorem dX3_isFigure_6 : decode cX3_isFigure 6 = .ok (.iload_n 0, 1) := by decide +kernel
theorem dX3_isFigure_7 : decode cX3_isFigure 7 = .ok (.bipush 57, 2) := by decide +kernel
theorem dX3_isFigure_9 : decode cX3_isFigure 9 = .ok (.if_icmp .gt 7, 3) := by decide +kernel
theorem dX3_isFigure_12 : decode cX3_isFigure 12 = .ok (.iconst 1, 1) := by decide +kernel
theorem dX3_isFigure_13 : decode cX3_isFigure 13 = .ok (.goto 4, 3) := by decide +kernel
theorem dX3_isFigure_16 : decode cX3_isFigure 16 = .ok (.iconst 0, 1) := by decide +kernel
theorem dX3_isFigure_17 : decode cX3_isFigure 17 = .ok (.ireturn, 1) := by decide +kernel
theorem dX3_take_0 : decode cX3_take 0 = .ok (.aload_n 0, 1) := by decide +kernel
theorem dX3_take_1 : decode cX3_take 1 = .ok (.getfield 24, 3) := by decide +kernel
theorem dX3_take_4 : decode cX3_take 4 = .ok (.ifCond .eq 4, 3) := by decide +kernel
theorem dX3_take_7 : decode cX3_take 7 = .ok (.return_, 1) := by decide +kernel
theorem dX3_take_8 : decode cX3_take 8 = .ok (.aload_n 0, 1) := by decide +kernel
theorem dX3_take_9 : decode cX3_take 9 = .ok (.aload_n 0, 1) := by decide +kernel
theorem dX3_take_10 : decode cX3_take 10 = .ok (.getfield 33, 3) := by decide +kernel
theorem dX3_take_13 : decode cX3_take 13 = .ok (.putfield 61, 3) := by decide +kernel
theorem dX3_take_16 : decode cX3_take 16 = .ok (.aload_n 0, 1) := by decide +kernel
theorem dX3_take_17 : decode cX3_take 17 = .ok (.getfield 61, 3) := by decide +kernel
theorem dX3_take_20 : decode cX3_take 20 = .ok (.aload_n 0, 1) := by decide +kernel
theorem dX3_take_21 : decode cX3_take 21 = .ok (.getfield 15, 3) := by decide +kernel
theorem dX3_take_24 : decode cX3_take 24 = .ok (.if_icmp .ge 29, 3) := by decide +kernel
theorem dX3_take_27 : decode cX3_take 27 = .ok (.aload_n 0, 1) := by decide +kernel
theorem dX3_take_28 : decode cX3_take 28 = .ok (.aload_n 0, 1) := by decide +kernel
theorem dX3_take_29 : decode cX3_take 29 = .ok (.getfield 61, 3) := by decide +kernel
theorem dX3_take_32 : decode cX3_take 32 = .ok (.invokevirtual 64, 3) := by decide +kernel
theorem dX3_take_35 : decode cX3_take 35 = .ok (.bipush 32, 2) := by decide +kernel
theorem dX3_take_37 : decode cX3_take 37 = .ok (.if_icmp .ne 16, 3) := by decide +kernel
theorem dX3_take_40 : decode cX3_take 40 = .ok (.aload_n 0, 1) := by decide +kernel
theorem dX3_take_41 : decode cX3_take 41 = .ok (.dup, 1) := by decide +kernel
theorem dX3_take_42 : decode cX3_take 42 = .ok (.getfield 61, 3) := by decide +kernel
theorem dX3_take_45 : decode cX3_take 45 = .ok (.iconst 1, 1) := by decide +kernel
theorem dX3_take_46 : decode cX3_take 46 = .ok (.iadd, 1) := by decide +kernel
theorem dX3_take_47 : decode cX3_take 47 = .ok (.putfield 61, 3) := by decide +kernel
theorem dX3_take_50 : decode cX3_take 50 = .ok (.goto (-34), 3) := by decide +kernel
theorem dX3_take_53 : decode cX3_take 53 = .ok (.aload_n 0, 1) := by decide +kernel
theorem dX3_take_54 : decode cX3_take 54 = .ok (.aload_n 0, 1) := by decide +kernel
theorem dX3_take_55 : decode cX3_take 55 = .ok (.getfield 61, 3) := by decide +kernel
theorem dX3_take_58 : decode cX3_take 58 = .ok (.putfield 33, 3) := by decide +kernel
theorem dX3_take_61 : decode cX3_take 61 = .ok (.aload_n 0, 1) := by decide +kernel
theorem dX3_take_62 : decode cX3_take 62 = .ok (.aload_n 0, 1) := by decide +kernel
theorem dX3_take_63 : decode cX3_take 63 = .ok (.getfield 61, 3) := by decide +kernel
theorem dX3_take_66 : decode cX3_take 66 = .ok (.invokevirtual 64, 3) := by decide +kernel
theorem dX3_take_69 : decode cX3_take 69 = .ok (.istore_n 1, 1) := by decide +kernel
theorem dX3_take_70 : decode cX3_take 70 = .ok (.aload_n 0, 1) := by decide +kernel
theorem dX3_take_71 : decode cX3_take 71 = .ok (.getfield 61, 3) := by decide +kernel
theorem dX3_take_74 : decode cX3_take 74 = .ok (.aload_n 0, 1) := by decide +kernel
theorem dX3_take_75 : decode cX3_take 75 = .ok (.getfield 15, 3) := by decide +kernel
theorem dX3_take_78 : decode cX3_take 78 = .ok (.if_icmp .lt 11, 3) := by decide +kernel
theorem dX3_take_81 : decode cX3_take 81 = .ok (.aload_n 0, 1) := by decide +kernel
theorem dX3_take_82 : decode cX3_take 82 = .ok (.iconst 0, 1) := by decide +kernel
theorem dX3_take_83 : decode cX3_take 83 = .ok (.putfield 46, 3) := by decide +kernel
theorem dX3_take_86 : decode cX3_take 86 = .ok (.goto 161, 3) := by decide +kernel
theorem dX3_take_89 : decode cX3_take 89 = .ok (.iload_n 1, 1) := by decide +kernel
theorem dX3_take_90 : decode cX3_take 90 = .ok (.invokestatic 68, 3) := by decide +kernel
theorem dX3_take_93 : decode cX3_take 93 = .ok (.ifCond .eq 46, 3) := by decide +kernel
theorem dX3_take_96 : decode cX3_take 96 = .ok (.aload_n 0, 1) := by decide +kernel
theorem dX3_take_97 : decode cX3_take 97 = .ok (.iconst 1, 1) := by decide +kernel
theorem dX3_take_98 : decode cX3_take 98 = .ok (.putfield 46, 3) := by decide +kernel
theorem dX3_take_101 : decode cX3_take 101 = .ok (.aload_n 0, 1) := by decide +kernel
theorem dX3_take_102 : decode cX3_take 102 = .ok (.getfield 33, 3) := by decide +kernel
theorem dX3_take_105 : decode cX3_take 105 = .ok (.aload_n 0, 1) := by decide +kernel
theorem dX3_take_106 : decode cX3_take 106 = .ok (.getfield 15, 3) := by decide +kernel
theorem dX3_take_109 : decode cX3_take 109 = .ok (.if_icmp .ge 138, 3) := by decide +kernel
theorem dX3_take_112 : decode cX3_take 112 = .ok (.aload_n 0, 1) := by decide +kernel
theorem dX3_take_113 : decode cX3_take 113 = .ok (.aload_n 0, 1) := by decide +kernel
theorem dX3_take_114 : decode cX3_take 114 = .ok (.getfield 33, 3) := by decide +kernel
theorem dX3_take_117 : decode cX3_take 117 = .ok (.invokevirtual 64, 3) := by decide +kernel
theorem dX3_take_120 : decode cX3_take 120 = .ok (.invokestatic 68, 3) := by decide +kernel
theorem dX3_take_123 : decode cX3_take 123 = .ok (.ifCond .eq 124, 3) := by decide +kernel
theorem dX3_take_126 : decode cX3_take 126 = .ok (.aload_n 0, 1) := by decide +kernel
theorem dX3_take_127 : decode cX3_take 127 = .ok (.dup, 1) := by decide +kernel
theorem dX3_take_128 : decode cX3_take 128 = .ok (.getfield 33, 3) := by decide +kernel
theorem dX3_take_131 : decode cX3_take 131 = .ok (.iconst 1, 1) := by decide +kernel
theorem dX3_take_132 : decode cX3_take 132 = .ok (.iadd, 1) := by decide +kernel
theorem dX3_take_133 : decode cX3_take 133 = .ok (.putfield 33, 3) := by decide +kernel
theorem dX3_take_136 : decode cX3_take 136 = .ok (.goto (-35), 3) := by decide +kernel
theorem dX3_take_139 : decode cX3_take 139 = .ok (.iload_n 1, 1) := by decide +kernel
theorem dX3_take_140 : decode cX3_take 140 = .ok (.invokestatic 72, 3) := by decide +kernel
theorem dX3_take_143 : decode cX3_take 143 = .ok (.ifCond .eq 71, 3) := by decide +kernel
theorem dX3_take_146 : decode cX3_take 146 = .ok (.aload_n 0, 1) := by decide +kernel
theorem dX3_take_147 : decode cX3_take 147 = .ok (.iconst 2, 1) := by decide +kernel
theorem dX3_take_148 : decode cX3_take 148 = .ok (.putfield 46, 3) := by decide +kernel
theorem dX3_take_151 : decode cX3_take 151 = .ok (.aload_n 0, 1) := by decide +kernel
theorem dX3_take_152 : decode cX3_take 152 = .ok (.getfield 33, 3) := by decide +kernel
theorem dX3_take_155 : decode cX3_take 155 = .ok (.aload_n 0, 1) := by decide +kernel
theorem dX3_take_156 : decode cX3_take 156 = .ok (.getfield 15, 3) := by decide +kernel
theorem dX3_take_159 : decode cX3_take 159 = .ok (.if_icmp .ge 30, 3) := by decide +kernel
theorem dX3_take_162 : decode cX3_take 162 = .ok (.aload_n 0, 1) := by decide +kernel
theorem dX3_take_163 : decode cX3_take 163 = .ok (.aload_n 0, 1) := by decide +kernel
theorem dX3_take_164 : decode cX3_take 164 = .ok (.getfield 33, 3) := by decide +kernel
theorem dX3_take_167 : decode cX3_take 167 = .ok (.invokevirtual 64, 3) := by decide +kernel
theorem dX3_take_170 : decode cX3_take 170 = .ok (.invokestatic 72, 3) := by decide +kernel
theorem dX3_take_173 : decode cX3_take 173 = .ok (.ifCond .eq 16, 3) := by decide +kernel
theorem dX3_take_176 : decode cX3_take 176 = .ok (.aload_n 0, 1) := by decide +kernel
theorem dX3_take_177 : decode cX3_take 177 = .ok (.dup, 1) := by decide +kernel
theorem dX3_take_178 : decode cX3_take 178 = .ok (.getfield 33, 3) := by decide +kernel
theorem dX3_take_181 : decode cX3_take 181 = .ok (.iconst 1, 1) := by decide +kernel
theorem dX3_take_182 : decode cX3_take 182 = .ok (.iadd, 1) := by decide +kernel
theorem dX3_take_183 : decode cX3_take 183 = .ok (.putfield 33, 3) := by decide +kernel
theorem dX3_take_186 : decode cX3_take 186 = .ok (.goto (-35), 3) := by decide +kernel
theorem dX3_take_189 : decode cX3_take 189 = .ok (.aload_n 0, 1) := by decide +kernel
theorem dX3_take_190 : decode cX3_take 190 = .ok (.getfield 33, 3) := by decide +kernel
theorem dX3_take_193 : decode cX3_take 193 = .ok (.aload_n 0, 1) := by decide +kernel
theorem dX3_take_194 : decode cX3_take 194 = .ok (.getfield 61, 3) := by decide +kernel
theorem dX3_take_197 : decode cX3_take 197 = .ok (.isub, 1) := by decide +kernel
theorem dX3_take_198 : decode cX3_take 198 = .ok (.iconst 2, 1) := by decide +kernel
theorem dX3_take_199 : decode cX3_take 199 = .ok (.if_icmp .le 48, 3) := by decide +kernel
theorem dX3_take_202 : decode cX3_take 202 = .ok (.aload_n 0, 1) := by decide +kernel
theorem dX3_take_203 : decode cX3_take 203 = .ok (.iconst 1, 1) := by decide +kernel
theorem dX3_take_204 : decode cX3_take 204 = .ok (.aload_n 0, 1) := by decide +kernel
theorem dX3_take_205 : decode cX3_take 205 = .ok (.getfield 61, 3) := by decide +kernel
theorem dX3_take_208 : decode cX3_take 208 = .ok (.invokevirtual 57, 3) := by decide +kernel
theorem dX3_take_211 : decode cX3_take 211 = .ok (.goto 36, 3) := by decide +kernel
theorem dX3_take_214 : decode cX3_take 214 = .ok (.iload_n 1, 1) := by decide +kernel
theorem dX3_take_215 : decode cX3_take 215 = .ok (.bipush 59, 2) := by decide +kernel
theorem dX3_take_217 : decode cX3_take 217 = .ok (.if_icmp .ne 21, 3) := by decide +kernel
theorem dX3_take_220 : decode cX3_take 220 = .ok (.aload_n 0, 1) := by decide +kernel
theorem dX3_take_221 : decode cX3_take 221 = .ok (.iconst 3, 1) := by decide +kernel
theorem dX3_take_222 : decode cX3_take 222 = .ok (.putfield 46, 3) := by decide +kernel
theorem dX3_take_225 : decode cX3_take 225 = .ok (.aload_n 0, 1) := by decide +kernel
theorem dX3_take_226 : decode cX3_take 226 = .ok (.dup, 1) := by decide +kernel
theorem dX3_take_227 : decode cX3_take 227 = .ok (.getfield 33, 3) := by decide +kernel
theorem dX3_take_230 : decode cX3_take 230 = .ok (.iconst 1, 1) := by decide +kernel
theorem dX3_take_231 : decode cX3_take 231 = .ok (.iadd, 1) := by decide +kernel
theorem dX3_take_232 : decode cX3_take 232 = .ok (.putfield 33, 3) := by decide +kernel
theorem dX3_take_235 : decode cX3_take 235 = .ok (.goto 12, 3) := by decide +kernel
theorem dX3_take_238 : decode cX3_take 238 = .ok (.aload_n 0, 1) := by decide +kernel
theorem dX3_take_239 : decode cX3_take 239 = .ok (.iconst 1, 1) := by decide +kernel
theorem dX3_take_240 : decode cX3_take 240 = .ok (.aload_n 0, 1) := by decide +kernel
theorem dX3_take_241 : decode cX3_take 241 = .ok (.getfield 61, 3) := by decide +kernel
theorem dX3_take_244 : decode cX3_take 244 = .ok (.invokevirtual 57, 3) := by decide +kernel
theorem dX3_take_247 : decode cX3_take 247 = .ok (.return_, 1) := by decide +kernel
theorem dX3_takeLine_0 : decode cX3_takeLine 0 = .ok (.aload_n 0, 1) := by decide +kernel
theorem dX3_takeLine_1 : decode cX3_takeLine 1 = .ok (.ldc 75, 2) := by decide +kernel
theorem dX3_takeLine_3 : decode cX3_takeLine 3 = .ok (.invokevirtual 77, 3) := by decide +kernel
theorem dX3_takeLine_6 : decode cX3_takeLine 6 = .ok (.ifCond .eq 12, 3) := by decide +kernel
theorem dX3_takeLine_9 : decode cX3_takeLine 9 = .ok (.aload_n 0, 1) := by decide +kernel
theorem dX3_takeLine_10 : decode cX3_takeLine 10 = .ok (.aload_n 1, 1) := by decide +kernel
theorem dX3_takeLine_11 : decode cX3_takeLine 11 = .ok (.iconst 0, 1) := by decide +kernel
theorem dX3_takeLine_12 : decode cX3_takeLine 12 = .ok (.invokevirtual 81, 3) := by decide +kernel
theorem dX3_takeLine_15 : decode cX3_takeLine 15 = .ok (.goto 117, 3) := by decide +kernel
theorem dX3_takeLine_18 : decode cX3_takeLine 18 = .ok (.aload_n 0, 1) := by decide +kernel
theorem dX3_takeLine_19 : decode cX3_takeLine 19 = .ok (.ldc 85, 2) := by decide +kernel
theorem dX3_takeLine_21 : decode cX3_takeLine 21 = .ok (.invokevirtual 77, 3) := by decide +kernel
theorem dX3_takeLine_24 : decode cX3_takeLine 24 = .ok (.ifCond .eq 12, 3) := by decide +kernel
theorem dX3_takeLine_27 : decode cX3_takeLine 27 = .ok (.aload_n 0, 1) := by decide +kernel
theorem dX3_takeLine_28 : decode cX3_takeLine 28 = .ok (.aload_n 1, 1) := by decide +kernel
theorem dX3_takeLine_29 : decode cX3_takeLine 29 = .ok (.iconst 1, 1) := by decide +kernel
theorem dX3_takeLine_30 : decode cX3_takeLine 30 = .ok (.invokevirtual 81, 3) := by decide +kernel
theorem dX3_takeLine_33 : decode cX3_takeLine 33 = .ok (.goto 99, 3) := by decide +kernel
theorem dX3_takeLine_36 : decode cX3_takeLine 36 = .ok (.aload_n 0, 1) := by decide +kernel
theorem dX3_takeLine_37 : decode cX3_takeLine 37 = .ok (.ldc 87, 2) := by decide +kernel
theorem dX3_takeLine_39 : decode cX3_takeLine 39 = .ok (.invokevirtual 77, 3) := by decide +kernel
theorem dX3_takeLine_42 : decode cX3_takeLine 42 = .ok (.ifCond .eq 12, 3) := by decide +kernel
theorem dX3_takeLine_45 : decode cX3_takeLine 45 = .ok (.aload_n 0, 1) := by decide +kernel
theorem dX3_takeLine_46 : decode cX3_takeLine 46 = .ok (.aload_n 1, 1) := by decide +kernel
theorem dX3_takeLine_47 : decode cX3_takeLine 47 = .ok (.iconst 2, 1) := by decide +kernel
theorem dX3_takeLine_48 : decode cX3_takeLine 48 = .ok (.invokevirtual 81, 3) := by decide +kernel
theorem dX3_takeLine_51 : decode cX3_takeLine 51 = .ok (.goto 81, 3) := by decide +kernel
theorem dX3_takeLine_54 : decode cX3_takeLine 54 = .ok (.aload_n 0, 1) := by decide +kernel
theorem dX3_takeLine_55 : decode cX3_takeLine 55 = .ok (.ldc 89, 2) := by decide +kernel
theorem dX3_takeLine_57 : decode cX3_takeLine 57 = .ok (.invokevirtual 77, 3) := by decide +kernel
theorem dX3_takeLine_60 : decode cX3_takeLine 60 = .ok (.ifCond .eq 12, 3) := by decide +kernel
theorem dX3_takeLine_63 : decode cX3_takeLine 63 = .ok (.aload_n 0, 1) := by decide +kernel
theorem dX3_takeLine_64 : decode cX3_takeLine 64 = .ok (.aload_n 1, 1) := by decide +kernel
theorem dX3_takeLine_65 : decode cX3_takeLine 65 = .ok (.iconst 3, 1) := by decide +kernel
theorem dX3_takeLine_66 : decode cX3_takeLine 66 = .ok (.invokevirtual 81, 3) := by decide +kernel
theorem dX3_takeLine_69 : decode cX3_takeLine 69 = .ok (.goto 63, 3) := by decide +kernel
theorem dX3_takeLine_72 : decode cX3_takeLine 72 = .ok (.aload_n 0, 1) := by decide +kernel
theorem dX3_takeLine_73 : decode cX3_takeLine 73 = .ok (.ldc 91, 2) := by decide +kernel
theorem dX3_takeLine_75 : decode cX3_takeLine 75 = .ok (.invokevirtual 77, 3) := by decide +kernel
theorem dX3_takeLine_78 : decode cX3_takeLine 78 = .ok (.ifCond .eq 11, 3) := by decide +kernel
theorem dX3_takeLine_81 : decode cX3_takeLine 81 = .ok (.aload_n 0, 1) := by decide +kernel
theorem dX3_takeLine_82 : decode cX3_takeLine 82 = .ok (.aload_n 1, 1) := by decide +kernel
theorem dX3_takeLine_83 : decode cX3_takeLine 83 = .ok (.invokevirtual 93, 3) := by decide +kernel
theorem dX3_takeLine_86 : decode cX3_takeLine 86 = .ok (.goto 46, 3) := by decide +kernel
theorem dX3_takeLine_89 : decode cX3_takeLine 89 = .ok (.aload_n 0, 1) := by decide +kernel
theorem dX3_takeLine_90 : decode cX3_takeLine 90 = .ok (.ldc 96, 2) := by decide +kernel
theorem dX3_takeLine_92 : decode cX3_takeLine 92 = .ok (.invokevirtual 77, 3) := by decide +kernel
theorem dX3_takeLine_95 : decode cX3_takeLine 95 = .ok (.ifCond .eq 11, 3) := by decide +kernel
theorem dX3_takeLine_98 : decode cX3_takeLine 98 = .ok (.aload_n 0, 1) := by decide +kernel
theorem dX3_takeLine_99 : decode cX3_takeLine 99 = .ok (.aload_n 1, 1) := by decide +kernel
theorem dX3_takeLine_100 : decode cX3_takeLine 100 = .ok (.invokevirtual 98, 3) := by decide +kernel
theorem dX3_takeLine_103 : decode cX3_takeLine 103 = .ok (.goto 29, 3) := by decide +kernel
theorem dX3_takeLine_106 : decode cX3_takeLine 106 = .ok (.aload_n 0, 1) := by decide +kernel
theorem dX3_takeLine_107 : decode cX3_takeLine 107 = .ok (.ldc 101, 2) := by decide +kernel
theorem dX3_takeLine_109 : decode cX3_takeLine 109 = .ok (.invokevirtual 77, 3) := by decide +kernel
theorem dX3_takeLine_112 : decode cX3_takeLine 112 = .ok (.ifCond .eq 11, 3) := by decide +kernel
theorem dX3_takeLine_115 : decode cX3_takeLine 115 = .ok (.aload_n 0, 1) := by decide +kernel
theorem dX3_takeLine_116 : decode cX3_takeLine 116 = .ok (.aload_n 1, 1) := by decide +kernel
theorem dX3_takeLine_117 : decode cX3_takeLine 117 = .ok (.invokevirtual 103, 3) := by decide +kernel
theorem dX3_takeLine_120 : decode cX3_takeLine 120 = .ok (.goto 12, 3) := by decide +kernel
theorem dX3_takeLine_123 : decode cX3_takeLine 123 = .ok (.aload_n 0, 1) := by decide +kernel
theorem dX3_takeLine_124 : decode cX3_takeLine 124 = .ok (.iconst 2, 1) := by decide +kernel
theorem dX3_takeLine_125 : decode cX3_takeLine 125 = .ok (.aload_n 0, 1) := by decide +kernel
theorem dX3_takeLine_126 : decode cX3_takeLine 126 = .ok (.getfield 61, 3) := by decide +kernel
theorem dX3_takeLine_129 : decode cX3_takeLine 129 = .ok (.invokevirtual 57, 3) := by decide +kernel
theorem dX3_takeLine_132 : decode cX3_takeLine 132 = .ok (.return_, 1) := by decide +kernel
theorem dX3_isNamed_0 : decode cX3_isNamed 0 = .ok (.aload_n 0, 1) := by decide +kernel
theorem dX3_isNamed_1 : decode cX3_isNamed 1 = .ok (.getfield 46, 3) := by decide +kernel
theorem dX3_isNamed_4 : decode cX3_isNamed 4 = .ok (.iconst 1, 1) := by decide +kernel
theorem dX3_isNamed_5 : decode cX3_isNamed 5 = .ok (.if_icmp .ne 19, 3) := by decide +kernel
theorem dX3_isNamed_8 : decode cX3_isNamed 8 = .ok (.aload_n 0, 1) := by decide +kernel
theorem dX3_isNamed_9 : decode cX3_isNamed 9 = .ok (.getfield 33, 3) := by decide +kernel
theorem dX3_isNamed_12 : decode cX3_isNamed 12 = .ok (.aload_n 0, 1) := by decide +kernel
theorem dX3_isNamed_13 : decode cX3_isNamed 13 = .ok (.getfield 61, 3) := by decide +kernel
theorem dX3_isNamed_16 : decode cX3_isNamed 16 = .ok (.isub, 1) := by decide +kernel
theorem dX3_isNamed_17 : decode cX3_isNamed 17 = .ok (.aload_n 1, 1) := by decide +kernel
theorem dX3_isNamed_18 : decode cX3_isNamed 18 = .ok (.invokevirtual 106, 3) := by decide +kernel
theorem dX3_isNamed_21 : decode cX3_isNamed 21 = .ok (.if_icmp .eq 5, 3) := by decide +kernel
theorem dX3_isNamed_24 : decode cX3_isNamed 24 = .ok (.iconst 0, 1) := by decide +kernel
theorem dX3_isNamed_25 : decode cX3_isNamed 25 = .ok (.ireturn, 1) := by decide +kernel
theorem dX3_isNamed_26 : decode cX3_isNamed 26 = .ok (.iconst 0, 1) := by decide +kernel
theorem dX3_isNamed_27 : decode cX3_isNamed 27 = .ok (.istore_n 2, 1) := by decide +kernel
theorem dX3_isNamed_28 : decode cX3_isNamed 28 = .ok (.iload_n 2, 1) := by decide +kernel
theorem dX3_isNamed_29 : decode cX3_isNamed 29 = .ok (.aload_n 1, 1) := by decide +kernel
theorem dX3_isNamed_30 : decode cX3_isNamed 30 = .ok (.invokevirtual 106, 3) := by decide +kernel
theorem dX3_isNamed_33 : decode cX3_isNamed 33 = .ok (.if_icmp .ge 29, 3) := by decide +kernel
theorem dX3_isNamed_36 : decode cX3_isNamed 36 = .ok (.aload_n 0, 1) := by decide +kernel
theorem dX3_isNamed_37 : decode cX3_isNamed 37 = .ok (.aload_n 0, 1) := by decide +kernel
theorem dX3_isNamed_38 : decode cX3_isNamed 38 = .ok (.getfield 61, 3) := by decide +kernel
theorem dX3_isNamed_41 : decode cX3_isNamed 41 = .ok (.iload_n 2, 1) := by decide +kernel
theorem dX3_isNamed_42 : decode cX3_isNamed 42 = .ok (.iadd, 1) := by decide +kernel
theorem dX3_isNamed_43 : decode cX3_isNamed 43 = .ok (.invokevirtual 64, 3) := by decide +kernel
theorem dX3_isNamed_46 : decode cX3_isNamed 46 = .ok (.aload_n 1, 1) := by decide +kernel
theorem dX3_isNamed_47 : decode cX3_isNamed 47 = .ok (.iload_n 2, 1) := by decide +kernel
theorem dX3_isNamed_48 : decode cX3_isNamed 48 = .ok (.invokevirtual 111, 3) := by decide +kernel
theorem dX3_isNamed_51 : decode cX3_isNamed 51 = .ok (.if_icmp .eq 5, 3) := by decide +kernel
theorem dX3_isNamed_54 : decode cX3_isNamed 54 = .ok (.iconst 0, 1) := by decide +kernel
theorem dX3_isNamed_55 : decode cX3_isNamed 55 = .ok (.ireturn, 1) := by decide +kernel
theorem dX3_isNamed_56 : decode cX3_isNamed 56 = .ok (.iinc 2 1, 3) := by decide +kernel
theorem dX3_isNamed_59 : decode cX3_isNamed 59 = .ok (.goto (-31), 3) := by decide +kernel
theorem dX3_isNamed_62 : decode cX3_isNamed 62 = .ok (.iconst 1, 1) := by decide +kernel
theorem dX3_isNamed_63 : decode cX3_isNamed 63 = .ok (.ireturn, 1) := by decide +kernel
theorem dX3_takeNumber_0 : decode cX3_takeNumber 0 = .ok (.aload_n 0, 1) := by decide +kernel
theorem dX3_takeNumber_1 : decode cX3_takeNumber 1 = .ok (.invokevirtual 43, 3) := by decide +kernel
theorem dX3_takeNumber_4 : decode cX3_takeNumber 4 = .ok (.aload_n 0, 1) := by decide +kernel
theorem dX3_takeNumber_5 : decode cX3_takeNumber 5 = .ok (.getfield 24, 3) := by decide +kernel
theorem dX3_takeNumber_8 : decode cX3_takeNumber 8 = .ok (.ifCond .eq 5, 3) := by decide +kernel
theorem dX3_takeNumber_11 : decode cX3_takeNumber 11 = .ok (.iload_n 1, 1) := by decide +kernel
theorem dX3_takeNumber_12 : decode cX3_takeNumber 12 = .ok (.ireturn, 1) := by decide +kernel
theorem dX3_takeNumber_13 : decode cX3_takeNumber 13 = .ok (.aload_n 0, 1) := by decide +kernel
theorem dX3_takeNumber_14 : decode cX3_takeNumber 14 = .ok (.getfield 46, 3) := by decide +kernel
theorem dX3_takeNumber_17 : decode cX3_takeNumber 17 = .ok (.iconst 2, 1) := by decide +kernel
theorem dX3_takeNumber_18 : decode cX3_takeNumber 18 = .ok (.if_icmp .eq 14, 3) := by decide +kernel
theorem dX3_takeNumber_21 : decode cX3_takeNumber 21 = .ok (.aload_n 0, 1) := by decide +kernel
theorem dX3_takeNumber_22 : decode cX3_takeNumber 22 = .ok (.iconst 2, 1) := by decide +kernel
theorem dX3_takeNumber_23 : decode cX3_takeNumber 23 = .ok (.aload_n 0, 1) := by decide +kernel
theorem dX3_takeNumber_24 : decode cX3_takeNumber 24 = .ok (.getfield 61, 3) := by decide +kernel
theorem dX3_takeNumber_27 : decode cX3_takeNumber 27 = .ok (.invokevirtual 57, 3) := by decide +kernel
theorem dX3_takeNumber_30 : decode cX3_takeNumber 30 = .ok (.iload_n 1, 1) := by decide +kernel
theorem dX3_takeNumber_31 : decode cX3_takeNumber 31 = .ok (.ireturn, 1) := by decide +kernel
theorem dX3_takeNumber_32 : decode cX3_takeNumber 32 = .ok (.iconst 0, 1) := by decide +kernel
theorem dX3_takeNumber_33 : decode cX3_takeNumber 33 = .ok (.istore_n 3, 1) := by decide +kernel
theorem dX3_takeNumber_34 : decode cX3_takeNumber 34 = .ok (.aload_n 0, 1) := by decide +kernel
theorem dX3_takeNumber_35 : decode cX3_takeNumber 35 = .ok (.getfield 61, 3) := by decide +kernel
theorem dX3_takeNumber_38 : decode cX3_takeNumber 38 = .ok (.istore 4, 2) := by decide +kernel
theorem dX3_takeNumber_40 : decode cX3_takeNumber 40 = .ok (.iload 4, 2) := by decide +kernel
theorem dX3_takeNumber_42 : decode cX3_takeNumber 42 = .ok (.aload_n 0, 1) := by decide +kernel
theorem dX3_takeNumber_43 : decode cX3_takeNumber 43 = .ok (.getfield 33, 3) := by decide +kernel
theorem dX3_takeNumber_46 : decode cX3_takeNumber 46 = .ok (.if_icmp .ge 24, 3) := by decide +kernel
theorem dX3_takeNumber_49 : decode cX3_takeNumber 49 = .ok (.iload_n 3, 1) := by decide +kernel
theorem dX3_takeNumber_50 : decode cX3_takeNumber 50 = .ok (.bipush 10, 2) := by decide +kernel
theorem dX3_takeNumber_52 : decode cX3_takeNumber 52 = .ok (.imul, 1) := by decide +kernel
theorem dX3_takeNumber_53 : decode cX3_takeNumber 53 = .ok (.aload_n 0, 1) := by decide +kernel
theorem dX3_takeNumber_54 : decode cX3_takeNumber 54 = .ok (.iload 4, 2) := by decide +kernel
theorem dX3_takeNumber_56 : decode cX3_takeNumber 56 = .ok (.invokevirtual 64, 3) := by decide +kernel
theorem dX3_takeNumber_59 : decode cX3_takeNumber 59 = .ok (.iadd, 1) := by decide +kernel
theorem dX3_takeNumber_60 : decode cX3_takeNumber 60 = .ok (.bipush 48, 2) := by decide +kernel
theorem dX3_takeNumber_62 : decode cX3_takeNumber 62 = .ok (.isub, 1) := by decide +kernel
theorem dX3_takeNumber_63 : decode cX3_takeNumber 63 = .ok (.istore_n 3, 1) := by decide +kernel
theorem dX3_takeNumber_64 : decode cX3_takeNumber 64 = .ok (.iinc 4 1, 3) := by decide +kernel
theorem dX3_takeNumber_67 : decode cX3_takeNumber 67 = .ok (.goto (-27), 3) := by decide +kernel
theorem dX3_takeNumber_70 : decode cX3_takeNumber 70 = .ok (.iload_n 3, 1) := by decide +kernel
theorem dX3_takeNumber_71 : decode cX3_takeNumber 71 = .ok (.iload_n 1, 1) := by decide +kernel
theorem dX3_takeNumber_72 : decode cX3_takeNumber 72 = .ok (.if_icmp .lt 8, 3) := by decide +kernel
theorem dX3_takeNumber_75 : decode cX3_takeNumber 75 = .ok (.iload_n 3, 1) := by decide +kernel
theorem dX3_takeNumber_76 : decode cX3_takeNumber 76 = .ok (.iload_n 2, 1) := by decide +kernel
theorem dX3_takeNumber_77 : decode cX3_takeNumber 77 = .ok (.if_icmp .le 14, 3) := by decide +kernel
theorem dX3_takeNumber_80 : decode cX3_takeNumber 80 = .ok (.aload_n 0, 1) := by decide +kernel
theorem dX3_takeNumber_81 : decode cX3_takeNumber 81 = .ok (.iconst 3, 1) := by decide +kernel
theorem dX3_takeNumber_82 : decode cX3_takeNumber 82 = .ok (.aload_n 0, 1) := by decide +kernel
theorem dX3_takeNumber_83 : decode cX3_takeNumber 83 = .ok (.getfield 61, 3) := by decide +kernel
theorem dX3_takeNumber_86 : decode cX3_takeNumber 86 = .ok (.invokevirtual 57, 3) := by decide +kernel
theorem dX3_takeNumber_89 : decode cX3_takeNumber 89 = .ok (.iload_n 1, 1) := by decide +kernel
theorem dX3_takeNumber_90 : decode cX3_takeNumber 90 = .ok (.ireturn, 1) := by decide +kernel
theorem dX3_takeNumber_91 : decode cX3_takeNumber 91 = .ok (.iload_n 3, 1) := by decide +kernel
theorem dX3_takeNumber_92 : decode cX3_takeNumber 92 = .ok (.ireturn, 1) := by decide +kernel
theorem dX3_takeSemicolon_0 : decode cX3_takeSemicolon 0 = .ok (.aload_n 0, 1) := by decide +kernel
theorem dX3_takeSemicolon_1 : decode cX3_takeSemicolon 1 = .ok (.invokevirtual 43, 3) := by decide +kernel
theorem dX3_takeSemicolon_4 : decode cX3_takeSemicolon 4 = .ok (.aload_n 0, 1) := by decide +kernel
theorem dX3_takeSemicolon_5 : decode cX3_takeSemicolon 5 = .ok (.getfield 46, 3) := by decide +kernel
theorem dX3_takeSemicolon_8 : decode cX3_takeSemicolon 8 = .ok (.iconst 3, 1) := by decide +kernel
theorem dX3_takeSemicolon_9 : decode cX3_takeSemicolon 9 = .ok (.if_icmp .eq 12, 3) := by decide +kernel
theorem dX3_takeSemicolon_12 : decode cX3_takeSemicolon 12 = .ok (.aload_n 0, 1) := by decide +kernel
theorem dX3_takeSemicolon_13 : decode cX3_takeSemicolon 13 = .ok (.iconst 2, 1) := by decide +kernel
theorem dX3_takeSemicolon_14 : decode cX3_takeSemicolon 14 = .ok (.aload_n 0, 1) := by decide +kernel
theorem dX3_takeSemicolon_15 : decode cX3_takeSemicolon 15 = .ok (.getfield 61, 3) := by decide +kernel
theorem dX3_takeSemicolon_18 : decode cX3_takeSemicolon 18 = .ok (.invokevirtual 57, 3) := by decide +kernel
theorem dX3_takeSemicolon_21 : decode cX3_takeSemicolon 21 = .ok (.return_, 1) := by decide +kernel
theorem dX3_takeRider_0 : decode cX3_takeRider 0 = .ok (.aload_n 1, 1) := by decide +kernel
theorem dX3_takeRider_1 : decode cX3_takeRider 1 = .ok (.getfield 115, 3) := by decide +kernel
theorem dX3_takeRider_4 : decode cX3_takeRider 4 = .ok (.iconst 5, 1) := by decide +kernel
theorem dX3_takeRider_5 : decode cX3_takeRider 5 = .ok (.if_icmp .lt 12, 3) := by decide +kernel
theorem dX3_takeRider_8 : decode cX3_takeRider 8 = .ok (.aload_n 0, 1) := by decide +kernel
theorem dX3_takeRider_9 : decode cX3_takeRider 9 = .ok (.iconst 5, 1) := by decide +kernel
theorem dX3_takeRider_10 : decode cX3_takeRider 10 = .ok (.aload_n 0, 1) := by decide +kernel
theorem dX3_takeRider_11 : decode cX3_takeRider 11 = .ok (.getfield 61, 3) := by decide +kernel
theorem dX3_takeRider_14 : decode cX3_takeRider 14 = .ok (.invokevirtual 57, 3) := by decide +kernel
theorem dX3_takeRider_17 : decode cX3_takeRider 17 = .ok (.aload_n 0, 1) := by decide +kernel
theorem dX3_takeRider_18 : decode cX3_takeRider 18 = .ok (.iconst 0, 1) := by decide +kernel
theorem dX3_takeRider_19 : decode cX3_takeRider 19 = .ok (.bipush 15, 2) := by decide +kernel
theorem dX3_takeRider_21 : decode cX3_takeRider 21 = .ok (.invokevirtual 118, 3) := by decide +kernel
theorem dX3_takeRider_24 : decode cX3_takeRider 24 = .ok (.istore_n 3, 1) := by decide +kernel
theorem dX3_takeRider_25 : decode cX3_takeRider 25 = .ok (.aload_n 0, 1) := by decide +kernel
theorem dX3_takeRider_26 : decode cX3_takeRider 26 = .ok (.iconst 1, 1) := by decide +kernel
theorem dX3_takeRider_27 : decode cX3_takeRider 27 = .ok (.bipush 99, 2) := by decide +kernel
theorem dX3_takeRider_29 : decode cX3_takeRider 29 = .ok (.invokevirtual 118, 3) := by decide +kernel
theorem dX3_takeRider_32 : decode cX3_takeRider 32 = .ok (.istore 4, 2) := by decide +kernel
theorem dX3_takeRider_34 : decode cX3_takeRider 34 = .ok (.aload_n 0, 1) := by decide +kernel
theorem dX3_takeRider_35 : decode cX3_takeRider 35 = .ok (.invokevirtual 122, 3) := by decide +kernel
theorem dX3_takeRider_38 : decode cX3_takeRider 38 = .ok (.aload_n 0, 1) := by decide +kernel
theorem dX3_takeRider_39 : decode cX3_takeRider 39 = .ok (.getfield 24, 3) := by decide +kernel
theorem dX3_takeRider_42 : decode cX3_takeRider 42 = .ok (.ifCond .ne 12, 3) := by decide +kernel
theorem dX3_takeRider_45 : decode cX3_takeRider 45 = .ok (.aload_n 1, 1) := by decide +kernel
theorem dX3_takeRider_46 : decode cX3_takeRider 46 = .ok (.iload_n 2, 1) := by decide +kernel
theorem dX3_takeRider_47 : decode cX3_takeRider 47 = .ok (.iload_n 3, 1) := by decide +kernel
theorem dX3_takeRider_48 : decode cX3_takeRider 48 = .ok (.iload 4, 2) := by decide +kernel
theorem dX3_takeRider_50 : decode cX3_takeRider 50 = .ok (.invokevirtual 125, 3) := by decide +kernel
theorem dX3_takeRider_53 : decode cX3_takeRider 53 = .ok (.pop, 1) := by decide +kernel
theorem dX3_takeRider_54 : decode cX3_takeRider 54 = .ok (.return_, 1) := by decide +kernel
theorem dX3_takeBearing_0 : decode cX3_takeBearing 0 = .ok (.aload_n 0, 1) := by decide +kernel
theorem dX3_takeBearing_1 : decode cX3_takeBearing 1 = .ok (.getfield 36, 3) := by decide +kernel
theorem dX3_takeBearing_4 : decode cX3_takeBearing 4 = .ok (.ifCond .eq 12, 3) := by decide +kernel
theorem dX3_takeBearing_7 : decode cX3_takeBearing 7 = .ok (.aload_n 0, 1) := by decide +kernel
theorem dX3_takeBearing_8 : decode cX3_takeBearing 8 = .ok (.iconst 4, 1) := by decide +kernel
theorem dX3_takeBearing_9 : decode cX3_takeBearing 9 = .ok (.aload_n 0, 1) := by decide +kernel
theorem dX3_takeBearing_10 : decode cX3_takeBearing 10 = .ok (.getfield 61, 3) := by decide +kernel
theorem dX3_takeBearing_13 : decode cX3_takeBearing 13 = .ok (.invokevirtual 57, 3) := by decide +kernel
theorem dX3_takeBearing_16 : decode cX3_takeBearing 16 = .ok (.aload_n 1, 1) := by decide +kernel
theorem dX3_takeBearing_17 : decode cX3_takeBearing 17 = .ok (.aload_n 0, 1) := by decide +kernel
theorem dX3_takeBearing_18 : decode cX3_takeBearing 18 = .ok (.iconst 1, 1) := by decide +kernel
theorem dX3_takeBearing_19 : decode cX3_takeBearing 19 = .ok (.bipush 99, 2) := by decide +kernel
theorem dX3_takeBearing_21 : decode cX3_takeBearing 21 = .ok (.invokevirtual 118, 3) := by decide +kernel
theorem dX3_takeBearing_24 : decode cX3_takeBearing 24 = .ok (.putfield 129, 3) := by decide +kernel
theorem dX3_takeBearing_27 : decode cX3_takeBearing 27 = .ok (.aload_n 0, 1) := by decide +kernel
theorem dX3_takeBearing_28 : decode cX3_takeBearing 28 = .ok (.invokevirtual 122, 3) := by decide +kernel
theorem dX3_takeBearing_31 : decode cX3_takeBearing 31 = .ok (.aload_n 0, 1) := by decide +kernel
theorem dX3_takeBearing_32 : decode cX3_takeBearing 32 = .ok (.iconst 1, 1) := by decide +kernel
theorem dX3_takeBearing_33 : decode cX3_takeBearing 33 = .ok (.putfield 36, 3) := by decide +kernel
theorem dX3_takeBearing_36 : decode cX3_takeBearing 36 = .ok (.return_, 1) := by decide +kernel
theorem dX3_takeTrust_0 : decode cX3_takeTrust 0 = .ok (.aload_n 0, 1) := by decide +kernel
theorem dX3_takeTrust_1 : decode cX3_takeTrust 1 = .ok (.iconst 0, 1) := by decide +kernel
theorem dX3_takeTrust_2 : decode cX3_takeTrust 2 = .ok (.iconst 3, 1) := by decide +kernel
theorem dX3_takeTrust_3 : decode cX3_takeTrust 3 = .ok (.invokevirtual 118, 3) := by decide +kernel
theorem dX3_takeTrust_6 : decode cX3_takeTrust 6 = .ok (.istore_n 2, 1) := by decide +kernel
theorem dX3_takeTrust_7 : decode cX3_takeTrust 7 = .ok (.aload_n 0, 1) := by decide +kernel
theorem dX3_takeTrust_8 : decode cX3_takeTrust 8 = .ok (.getfield 40, 3) := by decide +kernel
theorem dX3_takeTrust_11 : decode cX3_takeTrust 11 = .ok (.iload_n 2, 1) := by decide +kernel
theorem dX3_takeTrust_12 : decode cX3_takeTrust 12 = .ok (.ishr, 1) := by decide +kernel
theorem dX3_takeTrust_13 : decode cX3_takeTrust 13 = .ok (.iconst 1, 1) := by decide +kernel
theorem dX3_takeTrust_14 : decode cX3_takeTrust 14 = .ok (.iand, 1) := by decide +kernel
theorem dX3_takeTrust_15 : decode cX3_takeTrust 15 = .ok (.iconst 1, 1) := by decide +kernel
theorem dX3_takeTrust_16 : decode cX3_takeTrust 16 = .ok (.if_icmp .ne 12, 3) := by decide +kernel
theorem dX3_takeTrust_19 : decode cX3_takeTrust 19 = .ok (.aload_n 0, 1) := by decide +kernel
theorem dX3_takeTrust_20 : decode cX3_takeTrust 20 = .ok (.iconst 4, 1) := by decide +kernel
theorem dX3_takeTrust_21 : decode cX3_takeTrust 21 = .ok (.aload_n 0, 1) := by decide +kernel
theorem dX3_takeTrust_22 : decode cX3_takeTrust 22 = .ok (.getfield 61, 3) := by decide +kernel
theorem dX3_takeTrust_25 : decode cX3_takeTrust 25 = .ok (.invokevirtual 57, 3) := by decide +kernel
theorem dX3_takeTrust_28 : decode cX3_takeTrust 28 = .ok (.aload_n 1, 1) := by decide +kernel
theorem dX3_takeTrust_29 : decode cX3_takeTrust 29 = .ok (.getfield 132, 3) := by decide +kernel
theorem dX3_takeTrust_32 : decode cX3_takeTrust 32 = .ok (.iload_n 2, 1) := by decide +kernel
theorem dX3_takeTrust_33 : decode cX3_takeTrust 33 = .ok (.aload_n 0, 1) := by decide +kernel
theorem dX3_takeTrust_34 : decode cX3_takeTrust 34 = .ok (.iconst 0, 1) := by decide +kernel
theorem dX3_takeTrust_35 : decode cX3_takeTrust 35 = .ok (.bipush 9, 2) := by decide +kernel
theorem dX3_takeTrust_37 : decode cX3_takeTrust 37 = .ok (.invokevirtual 118, 3) := by decide +kernel
theorem dX3_takeTrust_40 : decode cX3_takeTrust 40 = .ok (.iastore, 1) := by decide +kernel
theorem dX3_takeTrust_41 : decode cX3_takeTrust 41 = .ok (.aload_n 0, 1) := by decide +kernel
theorem dX3_takeTrust_42 : decode cX3_takeTrust 42 = .ok (.invokevirtual 122, 3) := by decide +kernel
theorem dX3_takeTrust_45 : decode cX3_takeTrust 45 = .ok (.aload_n 0, 1) := by decide +kernel
theorem dX3_takeTrust_46 : decode cX3_takeTrust 46 = .ok (.dup, 1) := by decide +kernel
theorem dX3_takeTrust_47 : decode cX3_takeTrust 47 = .ok (.getfield 40, 3) := by decide +kernel
theorem dX3_takeTrust_50 : decode cX3_takeTrust 50 = .ok (.iconst 1, 1) := by decide +kernel
theorem dX3_takeTrust_51 : decode cX3_takeTrust 51 = .ok (.iload_n 2, 1) := by decide +kernel
theorem dX3_takeTrust_52 : decode cX3_takeTrust 52 = .ok (.ishl, 1) := by decide +kernel
theorem dX3_takeTrust_53 : decode cX3_takeTrust 53 = .ok (.ior, 1) := by decide +kernel
theorem dX3_takeTrust_54 : decode cX3_takeTrust 54 = .ok (.putfield 40, 3) := by decide +kernel
theorem dX3_takeTrust_57 : decode cX3_takeTrust 57 = .ok (.return_, 1) := by decide +kernel
theorem dX3_takeReport_0 : decode cX3_takeReport 0 = .ok (.aload_n 1, 1) := by decide +kernel
theorem dX3_takeReport_1 : decode cX3_takeReport 1 = .ok (.getfield 136, 3) := by decide +kernel
theorem dX3_takeReport_4 : decode cX3_takeReport 4 = .ok (.bipush 8, 2) := by decide +kernel
theorem dX3_takeReport_6 : decode cX3_takeReport 6 = .ok (.if_icmp .lt 12, 3) := by decide +kernel
theorem dX3_takeReport_9 : decode cX3_takeReport 9 = .ok (.aload_n 0, 1) := by decide +kernel
theorem dX3_takeReport_10 : decode cX3_takeReport 10 = .ok (.iconst 5, 1) := by decide +kernel
theorem dX3_takeReport_11 : decode cX3_takeReport 11 = .ok (.aload_n 0, 1) := by decide +kernel
theorem dX3_takeReport_12 : decode cX3_takeReport 12 = .ok (.getfield 61, 3) := by decide +kernel
theorem dX3_takeReport_15 : decode cX3_takeReport 15 = .ok (.invokevirtual 57, 3) := by decide +kernel
theorem dX3_takeReport_18 : decode cX3_takeReport 18 = .ok (.aload_n 0, 1) := by decide +kernel
theorem dX3_takeReport_19 : decode cX3_takeReport 19 = .ok (.iconst 0, 1) := by decide +kernel
theorem dX3_takeReport_20 : decode cX3_takeReport 20 = .ok (.bipush 99, 2) := by decide +kernel
theorem dX3_takeReport_22 : decode cX3_takeReport 22 = .ok (.invokevirtual 118, 3) := by decide +kernel
theorem dX3_takeReport_25 : decode cX3_takeReport 25 = .ok (.istore_n 2, 1) := by decide +kernel
theorem dX3_takeReport_26 : decode cX3_takeReport 26 = .ok (.aload_n 0, 1) := by decide +kernel
theorem dX3_takeReport_27 : decode cX3_takeReport 27 = .ok (.iconst 0, 1) := by decide +kernel
theorem dX3_takeReport_28 : decode cX3_takeReport 28 = .ok (.iconst 3, 1) := by decide +kernel
theorem dX3_takeReport_29 : decode cX3_takeReport 29 = .ok (.invokevirtual 118, 3) := by decide +kernel
theorem dX3_takeReport_32 : decode cX3_takeReport 32 = .ok (.istore_n 3, 1) := by decide +kernel
theorem dX3_takeReport_33 : decode cX3_takeReport 33 = .ok (.aload_n 0, 1) := by decide +kernel
theorem dX3_takeReport_34 : decode cX3_takeReport 34 = .ok (.iconst 0, 1) := by decide +kernel
theorem dX3_takeReport_35 : decode cX3_takeReport 35 = .ok (.iconst 4, 1) := by decide +kernel
theorem dX3_takeReport_36 : decode cX3_takeReport 36 = .ok (.invokevirtual 118, 3) := by decide +kernel
theorem dX3_takeReport_39 : decode cX3_takeReport 39 = .ok (.istore 4, 2) := by decide +kernel
theorem dX3_takeReport_41 : decode cX3_takeReport 41 = .ok (.aload_n 0, 1) := by decide +kernel
theorem dX3_takeReport_42 : decode cX3_takeReport 42 = .ok (.iconst 0, 1) := by decide +kernel
theorem dX3_takeReport_43 : decode cX3_takeReport 43 = .ok (.iconst 3, 1) := by decide +kernel
theorem dX3_takeReport_44 : decode cX3_takeReport 44 = .ok (.invokevirtual 118, 3) := by decide +kernel
theorem dX3_takeReport_47 : decode cX3_takeReport 47 = .ok (.istore 5, 2) := by decide +kernel
theorem dX3_takeReport_49 : decode cX3_takeReport 49 = .ok (.aload_n 0, 1) := by decide +kernel
theorem dX3_takeReport_50 : decode cX3_takeReport 50 = .ok (.invokevirtual 122, 3) := by decide +kernel
theorem dX3_takeReport_53 : decode cX3_takeReport 53 = .ok (.aload_n 0, 1) := by decide +kernel
theorem dX3_takeReport_54 : decode cX3_takeReport 54 = .ok (.getfield 24, 3) := by decide +kernel
theorem dX3_takeReport_57 : decode cX3_takeReport 57 = .ok (.ifCond .ne 14, 3) := by decide +kernel
theorem dX3_takeReport_60 : decode cX3_takeReport 60 = .ok (.aload_n 1, 1) := by decide +kernel
theorem dX3_takeReport_61 : decode cX3_takeReport 61 = .ok (.iload_n 2, 1) := by decide +kernel
theorem dX3_takeReport_62 : decode cX3_takeReport 62 = .ok (.iload_n 3, 1) := by decide +kernel
theorem dX3_takeReport_63 : decode cX3_takeReport 63 = .ok (.iload 4, 2) := by decide +kernel
theorem dX3_takeReport_65 : decode cX3_takeReport 65 = .ok (.iload 5, 2) := by decide +kernel
theorem dX3_takeReport_67 : decode cX3_takeReport 67 = .ok (.invokevirtual 139, 3) := by decide +kernel
theorem dX3_takeReport_70 : decode cX3_takeReport 70 = .ok (.pop, 1) := by decide +kernel
theorem dX3_takeReport_71 : decode cX3_takeReport 71 = .ok (.return_, 1) := by decide +kernel
theorem dX3_tellsOfMissingRider_0 : decode cX3_tellsOfMissingRider 0 = .ok (.iconst 0, 1) := by decide +kernel
theorem dX3_tellsOfMissingRider_1 : decode cX3_tellsOfMissingRider 1 = .ok (.istore_n 1, 1) := by decide +kernel
theorem dX3_tellsOfMissingRider_2 : decode cX3_tellsOfMissingRider 2 = .ok (.iload_n 1, 1) := by decide +kernel
theorem dX3_tellsOfMissingRider_3 : decode cX3_tellsOfMissingRider 3 = .ok (.aload_n 0, 1) := by decide +kernel
theorem dX3_tellsOfMissingRider_4 : decode cX3_tellsOfMissingRider 4 = .ok (.getfield 136, 3) := by decide +kernel
theorem dX3_tellsOfMissingRider_7 : decode cX3_tellsOfMissingRider 7 = .ok (.if_icmp .ge 24, 3) := by decide +kernel
theorem dX3_tellsOfMissingRider_10 : decode cX3_tellsOfMissingRider 10 = .ok (.aload_n 0, 1) := by decide +kernel
theorem dX3_tellsOfMissingRider_11 : decode cX3_tellsOfMissingRider 11 = .ok (.getfield 143, 3) := by decide +kernel
theorem dX3_tellsOfMissingRider_14 : decode cX3_tellsOfMissingRider 14 = .ok (.iload_n 1, 1) := by decide +kernel
theorem dX3_tellsOfMissingRider_15 : decode cX3_tellsOfMissingRider 15 = .ok (.iaload, 1) := by decide +kernel
theorem dX3_tellsOfMissingRider_16 : decode cX3_tellsOfMissingRider 16 = .ok (.aload_n 0, 1) := by decide +kernel
theorem dX3_tellsOfMissingRider_17 : decode cX3_tellsOfMissingRider 17 = .ok (.getfield 115, 3) := by decide +kernel
theorem dX3_tellsOfMissingRider_20 : decode cX3_tellsOfMissingRider 20 = .ok (.if_icmp .lt 5, 3) := by decide +kernel
theorem dX3_tellsOfMissingRider_23 : decode cX3_tellsOfMissingRider 23 = .ok (.iconst 1, 1) := by decide +kernel
theorem dX3_tellsOfMissingRider_24 : decode cX3_tellsOfMissingRider 24 = .ok (.ireturn, 1) := by decide +kernel
theorem dX3_tellsOfMissingRider_25 : decode cX3_tellsOfMissingRider 25 = .ok (.iinc 1 1, 3) := by decide +kernel
theorem dX3_tellsOfMissingRider_28 : decode cX3_tellsOfMissingRider 28 = .ok (.goto (-26), 3) := by decide +kernel
theorem dX3_tellsOfMissingRider_31 : decode cX3_tellsOfMissingRider 31 = .ok (.iconst 0, 1) := by decide +kernel
theorem dX3_tellsOfMissingRider_32 : decode cX3_tellsOfMissingRider 32 = .ok (.ireturn, 1) := by decide +kernel
end
section
theorem dX4_init_0 : decode cX4_init 0 = .ok (.aload_n 0, 1) := by decide +kernel
theorem dX4_init_1 : decode cX4_init 1 = .ok (.invokespecial 1, 3) := by decide +kernel
theorem dX4_init_4 : decode cX4_init 4 = .ok (.aload_n 0, 1) := by decide +kernel
theorem dX4_init_5 : decode cX4_init 5 = .ok (.new 7, 3) := by decide +kernel
theorem dX4_init_8 : decode cX4_init 8 = .ok (.dup, 1) := by decide +kernel
theorem dX4_init_9 : decode cX4_init 9 = .ok (.invokespecial 9, 3) := by decide +kernel
theorem dX4_init_12 : decode cX4_init 12 = .ok (.putfield 10, 3) := by decide +kernel
theorem dX4_init_15 : decode cX4_init 15 = .ok (.aload_n 0, 1) := by decide +kernel
theorem dX4_init_16 : decode cX4_init 16 = .ok (.new 7, 3) := by decide +kernel
theorem dX4_init_19 : decode cX4_init 19 = .ok (.dup, 1) := by decide +kernel
theorem dX4_init_20 : decode cX4_init 20 = .ok (.invokespecial 9, 3) := by decide +kernel
theorem dX4_init_23 : decode cX4_init 23 = .ok (.putfield 16, 3) := by decide +kernel
theorem dX4_init_26 : decode cX4_init 26 = .ok (.aload_n 0, 1) := by decide +kernel
theorem dX4_init_27 : decode cX4_init 27 = .ok (.new 7, 3) := by decide +kernel
theorem dX4_init_30 : decode cX4_init 30 = .ok (.dup, 1) := by decide +kernel
theorem dX4_init_31 : decode cX4_init 31 = .ok (.invokespecial 9, 3) := by decide +kernel
theorem dX4_init_34 : decode cX4_init 34 = .ok (.putfield 19, 3) := by decide +kernel
theorem dX4_init_37 : decode cX4_init 37 = .ok (.aload_n 0, 1) := by decide +kernel
theorem dX4_init_38 : decode cX4_init 38 = .ok (.new 7, 3) := by decide +kernel
theorem dX4_init_41 : decode cX4_init 41 = .ok (.dup, 1) := by decide +kernel
theorem dX4_init_42 : decode cX4_init 42 = .ok (.invokespecial 9, 3) := by decide +kernel
theorem dX4_init_45 : decode cX4_init 45 = .ok (.putfield 22, 3) := by decide +kernel
theorem dX4_init_48 : decode cX4_init 48 = .ok (.aload_n 0, 1) := by decide +kernel
theorem dX4_init_49 : decode cX4_init 49 = .ok (.new 25, 3) := by decide +kernel
theorem dX4_init_52 : decode cX4_init 52 = .ok (.dup, 1) := by decide +kernel
theorem dX4_init_53 : decode cX4_init 53 = .ok (.invokespecial 27, 3) := by decide +kernel
theorem dX4_init_56 : decode cX4_init 56 = .ok (.putfield 28, 3) := by decide +kernel
theorem dX4_init_59 : decode cX4_init 59 = .ok (.aload_n 0, 1) := by decide +kernel
theorem dX4_init_60 : decode cX4_init 60 = .ok (.new 32, 3) := by decide +kernel
theorem dX4_init_63 : decode cX4_init 63 = .ok (.dup, 1) := by decide +kernel
theorem dX4_init_64 : decode cX4_init 64 = .ok (.invokespecial 34, 3) := by decide +kernel
theorem dX4_init_67 : decode cX4_init 67 = .ok (.putfield 35, 3) := by decide +kernel
theorem dX4_init_70 : decode cX4_init 70 = .ok (.aload_n 0, 1) := by decide +kernel
theorem dX4_init_71 : decode cX4_init 71 = .ok (.new 39, 3) := by decide +kernel
theorem dX4_init_74 : decode cX4_init 74 = .ok (.dup, 1) := by decide +kernel
theorem dX4_init_75 : decode cX4_init 75 = .ok (.invokespecial 41, 3) := by decide +kernel
theorem dX4_init_78 : decode cX4_init 78 = .ok (.putfield 42, 3) := by decide +kernel
theorem dX4_init_81 : decode cX4_init 81 = .ok (.return_, 1) := by decide +kernel
theorem dX4_feed_0 : decode cX4_feed 0 = .ok (.iload_n 1, 1) := by decide +kernel
theorem dX4_feed_1 : decode cX4_feed 1 = .ok (.iconst 0, 1) := by decide +kernel
theorem dX4_feed_2 : decode cX4_feed 2 = .ok (.bipush 127, 2) := by decide +kernel
theorem dX4_feed_4 : decode cX4_feed 4 = .ok (.invokestatic 46, 3) := by decide +kernel
theorem dX4_feed_7 : decode cX4_feed 7 = .ok (.ifCond .ne 5, 3) := by decide +kernel
theorem dX4_feed_10 : decode cX4_feed 10 = .ok (.iconst (-1), 1) := by decide +kernel
theorem dX4_feed_11 : decode cX4_feed 11 = .ok (.ireturn, 1) := by decide +kernel
theorem dX4_feed_12 : decode cX4_feed 12 = .ok (.aload_n 0, 1) := by decide +kernel
theorem dX4_feed_13 : decode cX4_feed 13 = .ok (.getfield 28, 3) := by decide +kernel
theorem dX4_feed_16 : decode cX4_feed 16 = .ok (.iload_n 1, 1) := by decide +kernel
theorem dX4_feed_17 : decode cX4_feed 17 = .ok (.invokevirtual 50, 3) := by decide +kernel
theorem dX4_feed_20 : decode cX4_feed 20 = .ok (.ifCond .eq 13, 3) := by decide +kernel
theorem dX4_feed_23 : decode cX4_feed 23 = .ok (.aload_n 0, 1) := by decide +kernel
theorem dX4_feed_24 : decode cX4_feed 24 = .ok (.getfield 28, 3) := by decide +kernel
theorem dX4_feed_27 : decode cX4_feed 27 = .ok (.getfield 54, 3) := by decide +kernel
theorem dX4_feed_30 : decode cX4_feed 30 = .ok (.goto 5, 3) := by decide +kernel
theorem dX4_feed_33 : decode cX4_feed 33 = .ok (.bipush (-3), 2) := by decide +kernel
theorem dX4_feed_35 : decode cX4_feed 35 = .ok (.ireturn, 1) := by decide +kernel
theorem dX4_end_0 : decode cX4_end 0 = .ok (.iload_n 1, 1) := by decide +kernel
theorem dX4_end_1 : decode cX4_end 1 = .ok (.iconst 0, 1) := by decide +kernel
theorem dX4_end_2 : decode cX4_end 2 = .ok (.aload_n 0, 1) := by decide +kernel
theorem dX4_end_3 : decode cX4_end 3 = .ok (.getfield 28, 3) := by decide +kernel
theorem dX4_end_6 : decode cX4_end 6 = .ok (.getfield 54, 3) := by decide +kernel
theorem dX4_end_9 : decode cX4_end 9 = .ok (.invokestatic 46, 3) := by decide +kernel
theorem dX4_end_12 : decode cX4_end 12 = .ok (.ifCond .ne 5, 3) := by decide +kernel
theorem dX4_end_15 : decode cX4_end 15 = .ok (.iconst (-1), 1) := by decide +kernel
theorem dX4_end_16 : decode cX4_end 16 = .ok (.ireturn, 1) := by decide +kernel
theorem dX4_end_17 : decode cX4_end 17 = .ok (.aload_n 0, 1) := by decide +kernel
theorem dX4_end_18 : decode cX4_end 18 = .ok (.getfield 28, 3) := by decide +kernel
theorem dX4_end_21 : decode cX4_end 21 = .ok (.getfield 54, 3) := by decide +kernel
theorem dX4_end_24 : decode cX4_end 24 = .ok (.istore_n 2, 1) := by decide +kernel
theorem dX4_end_25 : decode cX4_end 25 = .ok (.aload_n 0, 1) := by decide +kernel
theorem dX4_end_26 : decode cX4_end 26 = .ok (.getfield 28, 3) := by decide +kernel
theorem dX4_end_29 : decode cX4_end 29 = .ok (.iload_n 1, 1) := by decide +kernel
theorem dX4_end_30 : decode cX4_end 30 = .ok (.putfield 54, 3) := by decide +kernel
theorem dX4_end_33 : decode cX4_end 33 = .ok (.iload_n 2, 1) := by decide +kernel
theorem dX4_end_34 : decode cX4_end 34 = .ok (.ireturn, 1) := by decide +kernel
theorem dX4_text_0 : decode cX4_text 0 = .ok (.aload_n 0, 1) := by decide +kernel
theorem dX4_text_1 : decode cX4_text 1 = .ok (.getfield 28, 3) := by decide +kernel
theorem dX4_text_4 : decode cX4_text 4 = .ok (.aload_n 0, 1) := by decide +kernel
theorem dX4_text_5 : decode cX4_text 5 = .ok (.getfield 16, 3) := by decide +kernel
theorem dX4_text_8 : decode cX4_text 8 = .ok (.invokevirtual 58, 3) := by decide +kernel
theorem dX4_text_11 : decode cX4_text 11 = .ok (.aload_n 0, 1) := by decide +kernel
theorem dX4_text_12 : decode cX4_text 12 = .ok (.getfield 28, 3) := by decide +kernel
theorem dX4_text_15 : decode cX4_text 15 = .ok (.iconst 0, 1) := by decide +kernel
theorem dX4_text_16 : decode cX4_text 16 = .ok (.putfield 54, 3) := by decide +kernel
theorem dX4_text_19 : decode cX4_text 19 = .ok (.aload_n 0, 1) := by decide +kernel
theorem dX4_text_20 : decode cX4_text 20 = .ok (.aload_n 0, 1) := by decide +kernel
theorem dX4_text_21 : decode cX4_text 21 = .ok (.getfield 28, 3) := by decide +kernel
theorem dX4_text_24 : decode cX4_text 24 = .ok (.getfield 62, 3) := by decide +kernel
theorem dX4_text_27 : decode cX4_text 27 = .ok (.putfield 65, 3) := by decide +kernel
theorem dX4_text_30 : decode cX4_text 30 = .ok (.aload_n 0, 1) := by decide +kernel
theorem dX4_text_31 : decode cX4_text 31 = .ok (.getfield 65, 3) := by decide +kernel
theorem dX4_text_34 : decode cX4_text 34 = .ok (.ifCond .eq 14, 3) := by decide +kernel
theorem dX4_text_37 : decode cX4_text 37 = .ok (.bipush (-10), 2) := by decide +kernel
theorem dX4_text_39 : decode cX4_text 39 = .ok (.aload_n 0, 1) := by decide +kernel
theorem dX4_text_40 : decode cX4_text 40 = .ok (.getfield 28, 3) := by decide +kernel
theorem dX4_text_43 : decode cX4_text 43 = .ok (.getfield 68, 3) := by decide +kernel
theorem dX4_text_46 : decode cX4_text 46 = .ok (.isub, 1) := by decide +kernel
theorem dX4_text_47 : decode cX4_text 47 = .ok (.ireturn, 1) := by decide +kernel
theorem dX4_text_48 : decode cX4_text 48 = .ok (.aload_n 0, 1) := by decide +kernel
theorem dX4_text_49 : decode cX4_text 49 = .ok (.getfield 10, 3) := by decide +kernel
theorem dX4_text_52 : decode cX4_text 52 = .ok (.aload_n 0, 1) := by decide +kernel
theorem dX4_text_53 : decode cX4_text 53 = .ok (.getfield 16, 3) := by decide +kernel
theorem dX4_text_56 : decode cX4_text 56 = .ok (.invokevirtual 71, 3) := by decide +kernel
theorem dX4_text_59 : decode cX4_text 59 = .ok (.aload_n 0, 1) := by decide +kernel
theorem dX4_text_60 : decode cX4_text 60 = .ok (.getfield 35, 3) := by decide +kernel
theorem dX4_text_63 : decode cX4_text 63 = .ok (.iconst 0, 1) := by decide +kernel
theorem dX4_text_64 : decode cX4_text 64 = .ok (.putfield 74, 3) := by decide +kernel
theorem dX4_text_67 : decode cX4_text 67 = .ok (.aload_n 0, 1) := by decide +kernel
theorem dX4_text_68 : decode cX4_text 68 = .ok (.iconst 0, 1) := by decide +kernel
theorem dX4_text_69 : decode cX4_text 69 = .ok (.putfield 77, 3) := by decide +kernel
theorem dX4_text_72 : decode cX4_text 72 = .ok (.aload_n 0, 1) := by decide +kernel
theorem dX4_text_73 : decode cX4_text 73 = .ok (.getfield 28, 3) := by decide +kernel
theorem dX4_text_76 : decode cX4_text 76 = .ok (.getfield 80, 3) := by decide +kernel
theorem dX4_text_79 : decode cX4_text 79 = .ok (.ireturn, 1) := by decide +kernel
theorem dX4_fault_0 : decode cX4_fault 0 = .ok (.aload_n 0, 1) := by decide +kernel
theorem dX4_fault_1 : decode cX4_fault 1 = .ok (.getfield 65, 3) := by decide +kernel
theorem dX4_fault_4 : decode cX4_fault 4 = .ok (.ireturn, 1) := by decide +kernel
theorem dX4_rule_0 : decode cX4_rule 0 = .ok (.iload_n 1, 1) := by decide +kernel
theorem dX4_rule_1 : decode cX4_rule 1 = .ok (.tableswitch 99 0 6 #[43, 51, 59, 67, 75, 83, 91], 43) := by decide +kernel
theorem dX4_rule_44 : decode cX4_rule 44 = .ok (.aload_n 0, 1) := by decide +kernel
theorem dX4_rule_45 : decode cX4_rule 45 = .ok (.getfield 10, 3) := by decide +kernel
theorem dX4_rule_48 : decode cX4_rule 48 = .ok (.getfield 83, 3) := by decide +kernel
theorem dX4_rule_51 : decode cX4_rule 51 = .ok (.ireturn, 1) := by decide +kernel
theorem dX4_rule_52 : decode cX4_rule 52 = .ok (.aload_n 0, 1) := by decide +kernel
theorem dX4_rule_53 : decode cX4_rule 53 = .ok (.getfield 10, 3) := by decide +kernel
theorem dX4_rule_56 : decode cX4_rule 56 = .ok (.getfield 86, 3) := by decide +kernel
theorem dX4_rule_59 : decode cX4_rule 59 = .ok (.ireturn, 1) := by decide +kernel
theorem dX4_rule_60 : decode cX4_rule 60 = .ok (.aload_n 0, 1) := by decide +kernel
theorem dX4_rule_61 : decode cX4_rule 61 = .ok (.getfield 10, 3) := by decide +kernel
theorem dX4_rule_64 : decode cX4_rule 64 = .ok (.getfield 89, 3) := by decide +kernel
theorem dX4_rule_67 : decode cX4_rule 67 = .ok (.ireturn, 1) := by decide +kernel
theorem dX4_rule_68 : decode cX4_rule 68 = .ok (.aload_n 0, 1) := by decide +kernel
theorem dX4_rule_69 : decode cX4_rule 69 = .ok (.getfield 10, 3) := by decide +kernel
theorem dX4_rule_72 : decode cX4_rule 72 = .ok (.getfield 92, 3) := by decide +kernel
theorem dX4_rule_75 : decode cX4_rule 75 = .ok (.ireturn, 1) := by decide +kernel
theorem dX4_rule_76 : decode cX4_rule 76 = .ok (.aload_n 0, 1) := by decide +kernel
theorem dX4_rule_77 : decode cX4_rule 77 = .ok (.getfield 10, 3) := by decide +kernel
theorem dX4_rule_80 : decode cX4_rule 80 = .ok (.getfield 95, 3) := by decide +kernel
theorem dX4_rule_83 : decode cX4_rule 83 = .ok (.ireturn, 1) := by decide +kernel
theorem dX4_rule_84 : decode cX4_rule 84 = .ok (.aload_n 0, 1) := by decide +kernel
theorem dX4_rule_85 : decode cX4_rule 85 = .ok (.getfield 10, 3) := by decide +kernel
theorem dX4_rule_88 : decode cX4_rule 88 = .ok (.invokevirtual 98, 3) := by decide +kernel
theorem dX4_rule_91 : decode cX4_rule 91 = .ok (.ireturn, 1) := by decide +kernel
theorem dX4_rule_92 : decode cX4_rule 92 = .ok (.aload_n 0, 1) := by decide +kernel
theorem dX4_rule_93 : decode cX4_rule 93 = .ok (.getfield 10, 3) := by decide +kernel
theorem dX4_rule_96 : decode cX4_rule 96 = .ok (.invokevirtual 102, 3) := by decide +kernel
theorem dX4_rule_99 : decode cX4_rule 99 = .ok (.ireturn, 1) := by decide +kernel
theorem dX4_rule_100 : decode cX4_rule 100 = .ok (.iconst (-1), 1) := by decide +kernel
theorem dX4_rule_101 : decode cX4_rule 101 = .ok (.ireturn, 1) := by decide +kernel
theorem dX4_rider_0 : decode cX4_rider 0 = .ok (.aload_n 0, 1) := by decide +kernel
theorem dX4_rider_1 : decode cX4_rider 1 = .ok (.iload_n 1, 1) := by decide +kernel
theorem dX4_rider_2 : decode cX4_rider 2 = .ok (.invokevirtual 105, 3) := by decide +kernel
theorem dX4_rider_5 : decode cX4_rider 5 = .ok (.ifCond .ne 5, 3) := by decide +kernel
theorem dX4_rider_8 : decode cX4_rider 8 = .ok (.iconst (-1), 1) := by decide +kernel
theorem dX4_rider_9 : decode cX4_rider 9 = .ok (.ireturn, 1) := by decide +kernel
theorem dX4_rider_10 : decode cX4_rider 10 = .ok (.iload_n 2, 1) := by decide +kernel
theorem dX4_rider_11 : decode cX4_rider 11 = .ok (.tableswitch 126 0 5 #[37, 47, 57, 67, 76, 92], 37) := by decide +kernel
theorem dX4_rider_48 : decode cX4_rider 48 = .ok (.aload_n 0, 1) := by decide +kernel
theorem dX4_rider_49 : decode cX4_rider 49 = .ok (.getfield 10, 3) := by decide +kernel
theorem dX4_rider_52 : decode cX4_rider 52 = .ok (.getfield 108, 3) := by decide +kernel
theorem dX4_rider_55 : decode cX4_rider 55 = .ok (.iload_n 1, 1) := by decide +kernel
theorem dX4_rider_56 : decode cX4_rider 56 = .ok (.iaload, 1) := by decide +kernel
theorem dX4_rider_57 : decode cX4_rider 57 = .ok (.ireturn, 1) := by decide +kernel
theorem dX4_rider_58 : decode cX4_rider 58 = .ok (.aload_n 0, 1) := by decide +kernel
theorem dX4_rider_59 : decode cX4_rider 59 = .ok (.getfield 10, 3) := by decide +kernel
theorem dX4_rider_62 : decode cX4_rider 62 = .ok (.getfield 112, 3) := by decide +kernel
theorem dX4_rider_65 : decode cX4_rider 65 = .ok (.iload_n 1, 1) := by decide +kernel
theorem dX4_rider_66 : decode cX4_rider 66 = .ok (.iaload, 1) := by decide +kernel
theorem dX4_rider_67 : decode cX4_rider 67 = .ok (.ireturn, 1) := by decide +kernel
theorem dX4_rider_68 : decode cX4_rider 68 = .ok (.aload_n 0, 1) := by decide +kernel
theorem dX4_rider_69 : decode cX4_rider 69 = .ok (.getfield 10, 3) := by decide +kernel
theorem dX4_rider_72 : decode cX4_rider 72 = .ok (.getfield 115, 3) := by decide +kernel
theorem dX4_rider_75 : decode cX4_rider 75 = .ok (.iload_n 1, 1) := by decide +kernel
theorem dX4_rider_76 : decode cX4_rider 76 = .ok (.iaload, 1) := by decide +kernel
theorem dX4_rider_77 : decode cX4_rider 77 = .ok (.ireturn, 1) := by decide +kernel
theorem dX4_rider_78 : decode cX4_rider 78 = .ok (.aload_n 0, 1) := by decide +kernel
theorem dX4_rider_79 : decode cX4_rider 79 = .ok (.getfield 10, 3) := by decide +kernel
theorem dX4_rider_82 : decode cX4_rider 82 = .ok (.iload_n 1, 1) := by decide +kernel
theorem dX4_rider_83 : decode cX4_rider 83 = .ok (.invokevirtual 118, 3) := by decide +kernel
theorem dX4_rider_86 : decode cX4_rider 86 = .ok (.ireturn, 1) := by decide +kernel
theorem dX4_rider_87 : decode cX4_rider 87 = .ok (.aload_n 0, 1) := by decide +kernel
theorem dX4_rider_88 : decode cX4_rider 88 = .ok (.getfield 10, 3) := by decide +kernel
theorem dX4_rider_91 : decode cX4_rider 91 = .ok (.iload_n 1, 1) := by decide +kernel
theorem dX4_rider_92 : decode cX4_rider 92 = .ok (.aload_n 0, 1) := by decide +kernel
theorem dX4_rider_93 : decode cX4_rider 93 = .ok (.getfield 10, 3) := by decide +kernel
theorem dX4_rider_96 : decode cX4_rider 96 = .ok (.getfield 89, 3) := by decide +kernel
theorem dX4_rider_99 : decode cX4_rider 99 = .ok (.invokevirtual 122, 3) := by decide +kernel
theorem dX4_rider_102 : decode cX4_rider 102 = .ok (.ireturn, 1) := by decide +kernel
theorem dX4_rider_103 : decode cX4_rider 103 = .ok (.aload_n 0, 1) := by decide +kernel
theorem dX4_rider_104 : decode cX4_rider 104 = .ok (.getfield 10, 3) := by decide +kernel
theorem dX4_rider_107 : decode cX4_rider 107 = .ok (.aload_n 0, 1) := by decide +kernel
theorem dX4_rider_108 : decode cX4_rider 108 = .ok (.getfield 10, 3) := by decide +kernel
theorem dX4_rider_111 : decode cX4_rider 111 = .ok (.getfield 112, 3) := by decide +kernel
theorem dX4_rider_114 : decode cX4_rider 114 = .ok (.iload_n 1, 1) := by decide +kernel
theorem dX4_rider_115 : decode cX4_rider 115 = .ok (.iaload, 1) := by decide +kernel
theorem dX4_rider_116 : decode cX4_rider 116 = .ok (.aload_n 0, 1) := by decide +kernel
theorem dX4_rider_117 : decode cX4_rider 117 = .ok (.getfield 10, 3) := by decide +kernel
theorem dX4_rider_120 : decode cX4_rider 120 = .ok (.getfield 115, 3) := by decide +kernel
theorem dX4_rider_123 : decode cX4_rider 123 = .ok (.iload_n 1, 1) := by decide +kernel
theorem dX4_rider_124 : decode cX4_rider 124 = .ok (.iaload, 1) := by decide +kernel
theorem dX4_rider_125 : decode cX4_rider 125 = .ok (.invokevirtual 126, 3) := by decide +kernel
theorem dX4_rider_128 : decode cX4_rider 128 = .ok (.ifCond .eq 7, 3) := by decide +kernel
theorem dX4_rider_131 : decode cX4_rider 131 = .ok (.iconst 1, 1) := by decide +kernel
theorem dX4_rider_132 : decode cX4_rider 132 = .ok (.goto 4, 3) := by decide +kernel
theorem dX4_rider_135 : decode cX4_rider 135 = .ok (.iconst 0, 1) := by decide +kernel
theorem dX4_rider_136 : decode cX4_rider 136 = .ok (.ireturn, 1) := by decide +kernel
theorem dX4_rider_137 : decode cX4_rider 137 = .ok (.iconst (-1), 1) := by decide +kernel
theorem dX4_rider_138 : decode cX4_rider 138 = .ok (.ireturn, 1) := by decide +kernel
theorem dX4_report_0 : decode cX4_report 0 = .ok (.iload_n 1, 1) := by decide +kernel
theorem dX4_report_1 : decode cX4_report 1 = .ok (.iconst 0, 1) := by decide +kernel
theorem dX4_report_2 : decode cX4_report 2 = .ok (.aload_n 0, 1) := by decide +kernel
theorem dX4_report_3 : decode cX4_report 3 = .ok (.getfield 10, 3) := by decide +kernel
theorem dX4_report_6 : decode cX4_report 6 = .ok (.getfield 86, 3) := by decide +kernel
theorem dX4_report_9 : decode cX4_report 9 = .ok (.iconst 1, 1) := by decide +kernel
theorem dX4_report_10 : decode cX4_report 10 = .ok (.isub, 1) := by decide +kernel
theorem dX4_report_11 : decode cX4_report 11 = .ok (.invokestatic 46, 3) := by decide +kernel
theorem dX4_report_14 : decode cX4_report 14 = .ok (.ifCond .ne 5, 3) := by decide +kernel
theorem dX4_report_17 : decode cX4_report 17 = .ok (.iconst (-1), 1) := by decide +kernel
theorem dX4_report_18 : decode cX4_report 18 = .ok (.ireturn, 1) := by decide +kernel
theorem dX4_report_19 : decode cX4_report 19 = .ok (.iload_n 2, 1) := by decide +kernel
theorem dX4_report_20 : decode cX4_report 20 = .ok (.tableswitch 72 0 3 #[32, 42, 52, 62], 32) := by decide +kernel
theorem dX4_report_52 : decode cX4_report 52 = .ok (.aload_n 0, 1) := by decide +kernel
theorem dX4_report_53 : decode cX4_report 53 = .ok (.getfield 10, 3) := by decide +kernel
theorem dX4_report_56 : decode cX4_report 56 = .ok (.getfield 130, 3) := by decide +kernel
theorem dX4_report_59 : decode cX4_report 59 = .ok (.iload_n 1, 1) := by decide +kernel
theorem dX4_report_60 : decode cX4_report 60 = .ok (.iaload, 1) := by decide +kernel
theorem dX4_report_61 : decode cX4_report 61 = .ok (.ireturn, 1) := by decide +kernel
theorem dX4_report_62 : decode cX4_report 62 = .ok (.aload_n 0, 1) := by decide +kernel
theorem dX4_report_63 : decode cX4_report 63 = .ok (.getfield 10, 3) := by decide +kernel
theorem dX4_report_66 : decode cX4_report 66 = .ok (.getfield 133, 3) := by decide +kernel
theorem dX4_report_69 : decode cX4_report 69 = .ok (.iload_n 1, 1) := by decide +kernel
theorem dX4_report_70 : decode cX4_report 70 = .ok (.iaload, 1) := by decide +kernel
theorem dX4_report_71 : decode cX4_report 71 = .ok (.ireturn, 1) := by decide +kernel
theorem dX4_report_72 : decode cX4_report 72 = .ok (.aload_n 0, 1) := by decide +kernel
theorem dX4_report_73 : decode cX4_report 73 = .ok (.getfield 10, 3) := by decide +kernel
theorem dX4_report_76 : decode cX4_report 76 = .ok (.getfield 136, 3) := by decide +kernel
theorem dX4_report_79 : decode cX4_report 79 = .ok (.iload_n 1, 1) := by decide +kernel
theorem dX4_report_80 : decode cX4_report 80 = .ok (.iaload, 1) := by decide +kernel
theorem dX4_report_81 : decode cX4_report 81 = .ok (.ireturn, 1) := by decide +kernel
theorem dX4_report_82 : decode cX4_report 82 = .ok (.aload_n 0, 1) := by decide +kernel
theorem dX4_report_83 : decode cX4_report 83 = .ok (.getfield 10, 3) := by decide +kernel
theorem dX4_report_86 : decode cX4_report 86 = .ok (.getfield 139, 3) := by decide +kernel
theorem dX4_report_89 : decode cX4_report 89 = .ok (.iload_n 1, 1) := by decide +kernel
theorem dX4_report_90 : decode cX4_report 90 = .ok (.iaload, 1) := by decide +kernel
theorem dX4_report_91 : decode cX4_report 91 = .ok (.ireturn, 1) := by decide +kernel
theorem dX4_report_92 : decode cX4_report 92 = .ok (.iconst (-1), 1) := by decide +kernel
theorem dX4_report_93 : decode cX4_report 93 = .ok (.ireturn, 1) := by decide +kernel
theorem dX4_trust_0 : decode cX4_trust 0 = .ok (.iload_n 1, 1) := by decide +kernel
theorem dX4_trust_1 : decode cX4_trust 1 = .ok (.invokestatic 142, 3) := by decide +kernel
theorem dX4_trust_4 : decode cX4_trust 4 = .ok (.ifCond .eq 15, 3) := by decide +kernel
theorem dX4_trust_7 : decode cX4_trust 7 = .ok (.aload_n 0, 1) := by decide +kernel
theorem dX4_trust_8 : decode cX4_trust 8 = .ok (.getfield 10, 3) := by decide +kernel
theorem dX4_trust_11 : decode cX4_trust 11 = .ok (.getfield 145, 3) := by decide +kernel
theorem dX4_trust_14 : decode cX4_trust 14 = .ok (.iload_n 1, 1) := by decide +kernel
theorem dX4_trust_15 : decode cX4_trust 15 = .ok (.iaload, 1) := by decide +kernel
theorem dX4_trust_16 : decode cX4_trust 16 = .ok (.goto 4, 3) := by decide +kernel
theorem dX4_trust_19 : decode cX4_trust 19 = .ok (.iconst (-1), 1) := by decide +kernel
theorem dX4_trust_20 : decode cX4_trust 20 = .ok (.ireturn, 1) := by decide +kernel
theorem dX4_told_0 : decode cX4_told 0 = .ok (.aload_n 0, 1) := by decide +kernel
theorem dX4_told_1 : decode cX4_told 1 = .ok (.iload_n 1, 1) := by decide +kernel
theorem dX4_told_2 : decode cX4_told 2 = .ok (.invokevirtual 105, 3) := by decide +kernel
theorem dX4_told_5 : decode cX4_told 5 = .ok (.ifCond .eq 17, 3) := by decide +kernel
theorem dX4_told_8 : decode cX4_told 8 = .ok (.iload_n 2, 1) := by decide +kernel
theorem dX4_told_9 : decode cX4_told 9 = .ok (.invokestatic 148, 3) := by decide +kernel
theorem dX4_told_12 : decode cX4_told 12 = .ok (.ifCond .eq 10, 3) := by decide +kernel
theorem dX4_told_15 : decode cX4_told 15 = .ok (.iload_n 3, 1) := by decide +kernel
theorem dX4_told_16 : decode cX4_told 16 = .ok (.invokestatic 151, 3) := by decide +kernel
theorem dX4_told_19 : decode cX4_told 19 = .ok (.ifCond .ne 5, 3) := by decide +kernel
theorem dX4_told_22 : decode cX4_told 22 = .ok (.iconst (-1), 1) := by decide +kernel
theorem dX4_told_23 : decode cX4_told 23 = .ok (.ireturn, 1) := by decide +kernel
theorem dX4_told_24 : decode cX4_told 24 = .ok (.aload_n 0, 1) := by decide +kernel
theorem dX4_told_25 : decode cX4_told 25 = .ok (.getfield 10, 3) := by decide +kernel
theorem dX4_told_28 : decode cX4_told 28 = .ok (.iload_n 1, 1) := by decide +kernel
theorem dX4_told_29 : decode cX4_told 29 = .ok (.iload_n 3, 1) := by decide +kernel
theorem dX4_told_30 : decode cX4_told 30 = .ok (.invokevirtual 154, 3) := by decide +kernel
theorem dX4_told_33 : decode cX4_told 33 = .ok (.aload_n 0, 1) := by decide +kernel
theorem dX4_told_34 : decode cX4_told 34 = .ok (.getfield 10, 3) := by decide +kernel
theorem dX4_told_37 : decode cX4_told 37 = .ok (.getfield 158, 3) := by decide +kernel
theorem dX4_told_40 : decode cX4_told 40 = .ok (.iload_n 2, 1) := by decide +kernel
theorem dX4_told_41 : decode cX4_told 41 = .ok (.iaload, 1) := by decide +kernel
theorem dX4_told_42 : decode cX4_told 42 = .ok (.ireturn, 1) := by decide +kernel
theorem dX4_alter_0 : decode cX4_alter 0 = .ok (.aload_n 0, 1) := by decide +kernel
theorem dX4_alter_1 : decode cX4_alter 1 = .ok (.iload_n 1, 1) := by decide +kernel
theorem dX4_alter_2 : decode cX4_alter 2 = .ok (.invokevirtual 105, 3) := by decide +kernel
theorem dX4_alter_5 : decode cX4_alter 5 = .ok (.ifCond .ne 5, 3) := by decide +kernel
theorem dX4_alter_8 : decode cX4_alter 8 = .ok (.iconst (-1), 1) := by decide +kernel
theorem dX4_alter_9 : decode cX4_alter 9 = .ok (.ireturn, 1) := by decide +kernel
theorem dX4_alter_10 : decode cX4_alter 10 = .ok (.iload_n 2, 1) := by decide +kernel
theorem dX4_alter_11 : decode cX4_alter 11 = .ok (.tableswitch 105 0 2 #[25, 51, 78], 25) := by decide +kernel
theorem dX4_alter_36 : decode cX4_alter 36 = .ok (.iload_n 3, 1) := by decide +kernel
theorem dX4_alter_37 : decode cX4_alter 37 = .ok (.iconst 0, 1) := by decide +kernel
theorem dX4_alter_38 : decode cX4_alter 38 = .ok (.iconst 3, 1) := by decide +kernel
theorem dX4_alter_39 : decode cX4_alter 39 = .ok (.invokestatic 46, 3) := by decide +kernel
theorem dX4_alter_42 : decode cX4_alter 42 = .ok (.ifCond .eq 18, 3) := by decide +kernel
theorem dX4_alter_45 : decode cX4_alter 45 = .ok (.aload_n 0, 1) := by decide +kernel
theorem dX4_alter_46 : decode cX4_alter 46 = .ok (.getfield 10, 3) := by decide +kernel
theorem dX4_alter_49 : decode cX4_alter 49 = .ok (.getfield 108, 3) := by decide +kernel
theorem dX4_alter_52 : decode cX4_alter 52 = .ok (.iload_n 1, 1) := by decide +kernel
theorem dX4_alter_53 : decode cX4_alter 53 = .ok (.iload_n 3, 1) := by decide +kernel
theorem dX4_alter_54 : decode cX4_alter 54 = .ok (.invokestatic 161, 3) := by decide +kernel
theorem dX4_alter_57 : decode cX4_alter 57 = .ok (.goto 4, 3) := by decide +kernel
theorem dX4_alter_60 : decode cX4_alter 60 = .ok (.iconst (-1), 1) := by decide +kernel
theorem dX4_alter_61 : decode cX4_alter 61 = .ok (.ireturn, 1) := by decide +kernel
theorem dX4_alter_62 : decode cX4_alter 62 = .ok (.iload_n 3, 1) := by decide +kernel
theorem dX4_alter_63 : decode cX4_alter 63 = .ok (.iconst 0, 1) := by decide +kernel
theorem dX4_alter_64 : decode cX4_alter 64 = .ok (.bipush 15, 2) := by decide +kernel
theorem dX4_alter_66 : decode cX4_alter 66 = .ok (.invokestatic 46, 3) := by decide +kernel
theorem dX4_alter_69 : decode cX4_alter 69 = .ok (.ifCond .eq 18, 3) := by decide +kernel
theorem dX4_alter_72 : decode cX4_alter 72 = .ok (.aload_n 0, 1) := by decide +kernel
theorem dX4_alter_73 : decode cX4_alter 73 = .ok (.getfield 10, 3) := by decide +kernel
theorem dX4_alter_76 : decode cX4_alter 76 = .ok (.getfield 112, 3) := by decide +kernel
theorem dX4_alter_79 : decode cX4_alter 79 = .ok (.iload_n 1, 1) := by decide +kernel
theorem dX4_alter_80 : decode cX4_alter 80 = .ok (.iload_n 3, 1) := by decide +kernel
theorem dX4_alter_81 : decode cX4_alter 81 = .ok (.invokestatic 161, 3) := by decide +kernel
theorem dX4_alter_84 : decode cX4_alter 84 = .ok (.goto 4, 3) := by decide +kernel
theorem dX4_alter_87 : decode cX4_alter 87 = .ok (.iconst (-1), 1) := by decide +kernel
theorem dX4_alter_88 : decode cX4_alter 88 = .ok (.ireturn, 1) := by decide +kernel
theorem dX4_alter_89 : decode cX4_alter 89 = .ok (.iload_n 3, 1) := by decide +kernel
theorem dX4_alter_90 : decode cX4_alter 90 = .ok (.iconst 1, 1) := by decide +kernel
theorem dX4_alter_91 : decode cX4_alter 91 = .ok (.bipush 99, 2) := by decide +kernel
theorem dX4_alter_93 : decode cX4_alter 93 = .ok (.invokestatic 46, 3) := by decide +kernel
theorem dX4_alter_96 : decode cX4_alter 96 = .ok (.ifCond .eq 18, 3) := by decide +kernel
theorem dX4_alter_99 : decode cX4_alter 99 = .ok (.aload_n 0, 1) := by decide +kernel
theorem dX4_alter_100 : decode cX4_alter 100 = .ok (.getfield 10, 3) := by decide +kernel
theorem dX4_alter_103 : decode cX4_alter 103 = .ok (.getfield 115, 3) := by decide +kernel
theorem dX4_alter_106 : decode cX4_alter 106 = .ok (.iload_n 1, 1) := by decide +kernel
theorem dX4_alter_107 : decode cX4_alter 107 = .ok (.iload_n 3, 1) := by decide +kernel
theorem dX4_alter_108 : decode cX4_alter 108 = .ok (.invokestatic 161, 3) := by decide +kernel
theorem dX4_alter_111 : decode cX4_alter 111 = .ok (.goto 4, 3) := by decide +kernel
theorem dX4_alter_114 : decode cX4_alter 114 = .ok (.iconst (-1), 1) := by decide +kernel
theorem dX4_alter_115 : decode cX4_alter 115 = .ok (.ireturn, 1) := by decide +kernel
theorem dX4_alter_116 : decode cX4_alter 116 = .ok (.iconst (-1), 1) := by decide +kernel
theorem dX4_alter_117 : decode cX4_alter 117 = .ok (.ireturn, 1) := by decide +kernel
theorem dX4_rely_0 : decode cX4_rely 0 = .ok (.iload_n 1, 1) := by decide +kernel
theorem dX4_rely_1 : decode cX4_rely 1 = .ok (.invokestatic 142, 3) := by decide +kernel
theorem dX4_rely_4 : decode cX4_rely 4 = .ok (.ifCond .eq 28, 3) := by decide +kernel
theorem dX4_rely_7 : decode cX4_rely 7 = .ok (.iload_n 2, 1) := by decide +kernel
theorem dX4_rely_8 : decode cX4_rely 8 = .ok (.iconst 0, 1) := by decide +kernel
theorem dX4_rely_9 : decode cX4_rely 9 = .ok (.bipush 9, 2) := by decide +kernel
theorem dX4_rely_11 : decode cX4_rely 11 = .ok (.invokestatic 46, 3) := by decide +kernel
theorem dX4_rely_14 : decode cX4_rely 14 = .ok (.ifCond .eq 18, 3) := by decide +kernel
theorem dX4_rely_17 : decode cX4_rely 17 = .ok (.aload_n 0, 1) := by decide +kernel
theorem dX4_rely_18 : decode cX4_rely 18 = .ok (.getfield 10, 3) := by decide +kernel
theorem dX4_rely_21 : decode cX4_rely 21 = .ok (.getfield 145, 3) := by decide +kernel
theorem dX4_rely_24 : decode cX4_rely 24 = .ok (.iload_n 1, 1) := by decide +kernel
theorem dX4_rely_25 : decode cX4_rely 25 = .ok (.iload_n 2, 1) := by decide +kernel
theorem dX4_rely_26 : decode cX4_rely 26 = .ok (.invokestatic 161, 3) := by decide +kernel
theorem dX4_rely_29 : decode cX4_rely 29 = .ok (.goto 4, 3) := by decide +kernel
theorem dX4_rely_32 : decode cX4_rely 32 = .ok (.iconst (-1), 1) := by decide +kernel
theorem dX4_rely_33 : decode cX4_rely 33 = .ok (.ireturn, 1) := by decide +kernel
theorem dX4_cast_0 : decode cX4_cast 0 = .ok (.iload_n 1, 1) := by decide +kernel
theorem dX4_cast_1 : decode cX4_cast 1 = .ok (.iconst 1, 1) := by decide +kernel
theorem dX4_cast_2 : decode cX4_cast 2 = .ok (.bipush 99, 2) := by decide +kernel
theorem dX4_cast_4 : decode cX4_cast 4 = .ok (.invokestatic 46, 3) := by decide +kernel
theorem dX4_cast_7 : decode cX4_cast 7 = .ok (.ifCond .ne 5, 3) := by decide +kernel
theorem dX4_cast_10 : decode cX4_cast 10 = .ok (.iconst (-1), 1) := by decide +kernel
theorem dX4_cast_11 : decode cX4_cast 11 = .ok (.ireturn, 1) := by decide +kernel
theorem dX4_cast_12 : decode cX4_cast 12 = .ok (.aload_n 0, 1) := by decide +kernel
theorem dX4_cast_13 : decode cX4_cast 13 = .ok (.getfield 10, 3) := by decide +kernel
theorem dX4_cast_16 : decode cX4_cast 16 = .ok (.getfield 95, 3) := by decide +kernel
theorem dX4_cast_19 : decode cX4_cast 19 = .ok (.istore_n 2, 1) := by decide +kernel
theorem dX4_cast_20 : decode cX4_cast 20 = .ok (.aload_n 0, 1) := by decide +kernel
theorem dX4_cast_21 : decode cX4_cast 21 = .ok (.getfield 10, 3) := by decide +kernel
theorem dX4_cast_24 : decode cX4_cast 24 = .ok (.iload_n 1, 1) := by decide +kernel
theorem dX4_cast_25 : decode cX4_cast 25 = .ok (.putfield 95, 3) := by decide +kernel
theorem dX4_cast_28 : decode cX4_cast 28 = .ok (.iload_n 2, 1) := by decide +kernel
theorem dX4_cast_29 : decode cX4_cast 29 = .ok (.ireturn, 1) := by decide +kernel
theorem dX4_send_0 : decode cX4_send 0 = .ok (.iload_n 1, 1) := by decide +kernel
theorem dX4_send_1 : decode cX4_send 1 = .ok (.invokestatic 151, 3) := by decide +kernel
theorem dX4_send_4 : decode cX4_send 4 = .ok (.ifCond .eq 26, 3) := by decide +kernel
theorem dX4_send_7 : decode cX4_send 7 = .ok (.iload_n 2, 1) := by decide +kernel
theorem dX4_send_8 : decode cX4_send 8 = .ok (.invokestatic 142, 3) := by decide +kernel
theorem dX4_send_11 : decode cX4_send 11 = .ok (.ifCond .eq 19, 3) := by decide +kernel
theorem dX4_send_14 : decode cX4_send 14 = .ok (.aload_n 0, 1) := by decide +kernel
theorem dX4_send_15 : decode cX4_send 15 = .ok (.iload_n 3, 1) := by decide +kernel
theorem dX4_send_16 : decode cX4_send 16 = .ok (.invokevirtual 105, 3) := by decide +kernel
theorem dX4_send_19 : decode cX4_send 19 = .ok (.ifCond .eq 11, 3) := by decide +kernel
theorem dX4_send_22 : decode cX4_send 22 = .ok (.iload 4, 2) := by decide +kernel
theorem dX4_send_24 : decode cX4_send 24 = .ok (.invokestatic 148, 3) := by decide +kernel
theorem dX4_send_27 : decode cX4_send 27 = .ok (.ifCond .ne 5, 3) := by decide +kernel
theorem dX4_send_30 : decode cX4_send 30 = .ok (.iconst (-1), 1) := by decide +kernel
theorem dX4_send_31 : decode cX4_send 31 = .ok (.ireturn, 1) := by decide +kernel
theorem dX4_send_32 : decode cX4_send 32 = .ok (.aload_n 0, 1) := by decide +kernel
theorem dX4_send_33 : decode cX4_send 33 = .ok (.getfield 10, 3) := by decide +kernel
theorem dX4_send_36 : decode cX4_send 36 = .ok (.iload_n 1, 1) := by decide +kernel
theorem dX4_send_37 : decode cX4_send 37 = .ok (.iload_n 2, 1) := by decide +kernel
theorem dX4_send_38 : decode cX4_send 38 = .ok (.iload_n 3, 1) := by decide +kernel
theorem dX4_send_39 : decode cX4_send 39 = .ok (.iload 4, 2) := by decide +kernel
theorem dX4_send_41 : decode cX4_send 41 = .ok (.invokevirtual 165, 3) := by decide +kernel
theorem dX4_send_44 : decode cX4_send 44 = .ok (.ifCond .eq 13, 3) := by decide +kernel
theorem dX4_send_47 : decode cX4_send 47 = .ok (.aload_n 0, 1) := by decide +kernel
theorem dX4_send_48 : decode cX4_send 48 = .ok (.getfield 10, 3) := by decide +kernel
theorem dX4_send_51 : decode cX4_send 51 = .ok (.getfield 86, 3) := by decide +kernel
theorem dX4_send_54 : decode cX4_send 54 = .ok (.goto 5, 3) := by decide +kernel
theorem dX4_send_57 : decode cX4_send 57 = .ok (.bipush (-3), 2) := by decide +kernel
theorem dX4_send_59 : decode cX4_send 59 = .ok (.ireturn, 1) := by decide +kernel
theorem dX4_burn_0 : decode cX4_burn 0 = .ok (.iload_n 1, 1) := by decide +kernel
theorem dX4_burn_1 : decode cX4_burn 1 = .ok (.iconst 0, 1) := by decide +kernel
theorem dX4_burn_2 : decode cX4_burn 2 = .ok (.aload_n 0, 1) := by decide +kernel
theorem dX4_burn_3 : decode cX4_burn 3 = .ok (.getfield 10, 3) := by decide +kernel
theorem dX4_burn_6 : decode cX4_burn 6 = .ok (.getfield 86, 3) := by decide +kernel
theorem dX4_burn_9 : decode cX4_burn 9 = .ok (.invokestatic 46, 3) := by decide +kernel
theorem dX4_burn_12 : decode cX4_burn 12 = .ok (.ifCond .ne 5, 3) := by decide +kernel
theorem dX4_burn_15 : decode cX4_burn 15 = .ok (.iconst (-1), 1) := by decide +kernel
theorem dX4_burn_16 : decode cX4_burn 16 = .ok (.ireturn, 1) := by decide +kernel
theorem dX4_burn_17 : decode cX4_burn 17 = .ok (.aload_n 0, 1) := by decide +kernel
theorem dX4_burn_18 : decode cX4_burn 18 = .ok (.getfield 10, 3) := by decide +kernel
theorem dX4_burn_21 : decode cX4_burn 21 = .ok (.getfield 86, 3) := by decide +kernel
theorem dX4_burn_24 : decode cX4_burn 24 = .ok (.istore_n 2, 1) := by decide +kernel
theorem dX4_burn_25 : decode cX4_burn 25 = .ok (.aload_n 0, 1) := by decide +kernel
theorem dX4_burn_26 : decode cX4_burn 26 = .ok (.getfield 10, 3) := by decide +kernel
theorem dX4_burn_29 : decode cX4_burn 29 = .ok (.iload_n 1, 1) := by decide +kernel
theorem dX4_burn_30 : decode cX4_burn 30 = .ok (.putfield 86, 3) := by decide +kernel
theorem dX4_burn_33 : decode cX4_burn 33 = .ok (.iload_n 2, 1) := by decide +kernel
theorem dX4_burn_34 : decode cX4_burn 34 = .ok (.ireturn, 1) := by decide +kernel
theorem dX4_days_0 : decode cX4_days 0 = .ok (.iload_n 1, 1) := by decide +kernel
theorem dX4_days_1 : decode cX4_days 1 = .ok (.iconst 0, 1) := by decide +kernel
theorem dX4_days_2 : decode cX4_days 2 = .ok (.bipush 30, 2) := by decide +kernel
theorem dX4_days_4 : decode cX4_days 4 = .ok (.invokestatic 46, 3) := by decide +kernel
theorem dX4_days_7 : decode cX4_days 7 = .ok (.ifCond .ne 5, 3) := by decide +kernel
theorem dX4_days_10 : decode cX4_days 10 = .ok (.iconst (-1), 1) := by decide +kernel
theorem dX4_days_11 : decode cX4_days 11 = .ok (.ireturn, 1) := by decide +kernel
theorem dX4_days_12 : decode cX4_days 12 = .ok (.aload_n 0, 1) := by decide +kernel
theorem dX4_days_13 : decode cX4_days 13 = .ok (.getfield 10, 3) := by decide +kernel
theorem dX4_days_16 : decode cX4_days 16 = .ok (.getfield 89, 3) := by decide +kernel
theorem dX4_days_19 : decode cX4_days 19 = .ok (.iload_n 1, 1) := by decide +kernel
theorem dX4_days_20 : decode cX4_days 20 = .ok (.iadd, 1) := by decide +kernel
theorem dX4_days_21 : decode cX4_days 21 = .ok (.sipush 1000, 3) := by decide +kernel
theorem dX4_days_24 : decode cX4_days 24 = .ok (.if_icmp .lt 8, 3) := by decide +kernel
theorem dX4_days_27 : decode cX4_days 27 = .ok (.bipush (-3), 2) := by decide +kernel
theorem dX4_days_29 : decode cX4_days 29 = .ok (.goto 11, 3) := by decide +kernel
theorem dX4_days_32 : decode cX4_days 32 = .ok (.aload_n 0, 1) := by decide +kernel
theorem dX4_days_33 : decode cX4_days 33 = .ok (.getfield 10, 3) := by decide +kernel
theorem dX4_days_36 : decode cX4_days 36 = .ok (.iload_n 1, 1) := by decide +kernel
theorem dX4_days_37 : decode cX4_days 37 = .ok (.invokevirtual 169, 3) := by decide +kernel
theorem dX4_days_40 : decode cX4_days 40 = .ok (.ireturn, 1) := by decide +kernel
theorem dX4_runs_0 : decode cX4_runs 0 = .ok (.iload_n 1, 1) := by decide +kernel
theorem dX4_runs_1 : decode cX4_runs 1 = .ok (.invokestatic 172, 3) := by decide +kernel
theorem dX4_runs_4 : decode cX4_runs 4 = .ok (.ifCond .eq 12, 3) := by decide +kernel
theorem dX4_runs_7 : decode cX4_runs 7 = .ok (.iload_n 2, 1) := by decide +kernel
theorem dX4_runs_8 : decode cX4_runs 8 = .ok (.iconst 0, 1) := by decide +kernel
theorem dX4_runs_9 : decode cX4_runs 9 = .ok (.iconst 3, 1) := by decide +kernel
theorem dX4_runs_10 : decode cX4_runs 10 = .ok (.invokestatic 46, 3) := by decide +kernel
theorem dX4_runs_13 : decode cX4_runs 13 = .ok (.ifCond .ne 5, 3) := by decide +kernel
theorem dX4_runs_16 : decode cX4_runs 16 = .ok (.iconst (-1), 1) := by decide +kernel
theorem dX4_runs_17 : decode cX4_runs 17 = .ok (.ireturn, 1) := by decide +kernel
theorem dX4_runs_18 : decode cX4_runs 18 = .ok (.aload_n 0, 1) := by decide +kernel
theorem dX4_runs_19 : decode cX4_runs 19 = .ok (.getfield 16, 3) := by decide +kernel
theorem dX4_runs_22 : decode cX4_runs 22 = .ok (.aload_n 0, 1) := by decide +kernel
theorem dX4_runs_23 : decode cX4_runs 23 = .ok (.getfield 10, 3) := by decide +kernel
theorem dX4_runs_26 : decode cX4_runs 26 = .ok (.invokevirtual 71, 3) := by decide +kernel
theorem dX4_runs_29 : decode cX4_runs 29 = .ok (.iconst 0, 1) := by decide +kernel
theorem dX4_runs_30 : decode cX4_runs 30 = .ok (.istore_n 3, 1) := by decide +kernel
theorem dX4_runs_31 : decode cX4_runs 31 = .ok (.iconst 0, 1) := by decide +kernel
theorem dX4_runs_32 : decode cX4_runs 32 = .ok (.istore 4, 2) := by decide +kernel
theorem dX4_runs_34 : decode cX4_runs 34 = .ok (.bipush (-4), 2) := by decide +kernel
theorem dX4_runs_36 : decode cX4_runs 36 = .ok (.istore 5, 2) := by decide +kernel
theorem dX4_runs_38 : decode cX4_runs 38 = .ok (.iconst 1, 1) := by decide +kernel
theorem dX4_runs_39 : decode cX4_runs 39 = .ok (.istore 6, 2) := by decide +kernel
theorem dX4_runs_41 : decode cX4_runs 41 = .ok (.iload 6, 2) := by decide +kernel
theorem dX4_runs_43 : decode cX4_runs 43 = .ok (.iload_n 1, 1) := by decide +kernel
theorem dX4_runs_44 : decode cX4_runs 44 = .ok (.if_icmp .gt 59, 3) := by decide +kernel
theorem dX4_runs_47 : decode cX4_runs 47 = .ok (.aload_n 0, 1) := by decide +kernel
theorem dX4_runs_48 : decode cX4_runs 48 = .ok (.getfield 16, 3) := by decide +kernel
theorem dX4_runs_51 : decode cX4_runs 51 = .ok (.invokevirtual 175, 3) := by decide +kernel
theorem dX4_runs_54 : decode cX4_runs 54 = .ok (.istore 7, 2) := by decide +kernel
theorem dX4_runs_56 : decode cX4_runs 56 = .ok (.iload_n 3, 1) := by decide +kernel
theorem dX4_runs_57 : decode cX4_runs 57 = .ok (.iload 7, 2) := by decide +kernel
theorem dX4_runs_59 : decode cX4_runs 59 = .ok (.iadd, 1) := by decide +kernel
theorem dX4_runs_60 : decode cX4_runs 60 = .ok (.istore_n 3, 1) := by decide +kernel
theorem dX4_runs_61 : decode cX4_runs 61 = .ok (.iload 4, 2) := by decide +kernel
theorem dX4_runs_63 : decode cX4_runs 63 = .ok (.iload 7, 2) := by decide +kernel
theorem dX4_runs_65 : decode cX4_runs 65 = .ok (.ifCond .le 7, 3) := by decide +kernel
theorem dX4_runs_68 : decode cX4_runs 68 = .ok (.iconst 1, 1) := by decide +kernel
theorem dX4_runs_69 : decode cX4_runs 69 = .ok (.goto 4, 3) := by decide +kernel
theorem dX4_runs_72 : decode cX4_runs 72 = .ok (.iconst 0, 1) := by decide +kernel
theorem dX4_runs_73 : decode cX4_runs 73 = .ok (.iadd, 1) := by decide +kernel
theorem dX4_runs_74 : decode cX4_runs 74 = .ok (.istore 4, 2) := by decide +kernel
theorem dX4_runs_76 : decode cX4_runs 76 = .ok (.iload 7, 2) := by decide +kernel
theorem dX4_runs_78 : decode cX4_runs 78 = .ok (.ifCond .le 15, 3) := by decide +kernel
theorem dX4_runs_81 : decode cX4_runs 81 = .ok (.iload 5, 2) := by decide +kernel
theorem dX4_runs_83 : decode cX4_runs 83 = .ok (.bipush (-4), 2) := by decide +kernel
theorem dX4_runs_85 : decode cX4_runs 85 = .ok (.if_icmp .ne 8, 3) := by decide +kernel
theorem dX4_runs_88 : decode cX4_runs 88 = .ok (.iload 6, 2) := by decide +kernel
theorem dX4_runs_90 : decode cX4_runs 90 = .ok (.goto 5, 3) := by decide +kernel
theorem dX4_runs_93 : decode cX4_runs 93 = .ok (.iload 5, 2) := by decide +kernel
theorem dX4_runs_95 : decode cX4_runs 95 = .ok (.istore 5, 2) := by decide +kernel
theorem dX4_runs_97 : decode cX4_runs 97 = .ok (.iinc 6 1, 3) := by decide +kernel
theorem dX4_runs_100 : decode cX4_runs 100 = .ok (.goto (-59), 3) := by decide +kernel
theorem dX4_runs_103 : decode cX4_runs 103 = .ok (.iload_n 2, 1) := by decide +kernel
theorem dX4_runs_104 : decode cX4_runs 104 = .ok (.tableswitch 41 0 2 #[28, 30, 38], 28) := by decide +kernel
theorem dX4_runs_132 : decode cX4_runs 132 = .ok (.iload_n 3, 1) := by decide +kernel
theorem dX4_runs_133 : decode cX4_runs 133 = .ok (.ireturn, 1) := by decide +kernel
theorem dX4_runs_134 : decode cX4_runs 134 = .ok (.aload_n 0, 1) := by decide +kernel
theorem dX4_runs_135 : decode cX4_runs 135 = .ok (.getfield 16, 3) := by decide +kernel
theorem dX4_runs_138 : decode cX4_runs 138 = .ok (.invokevirtual 98, 3) := by decide +kernel
theorem dX4_runs_141 : decode cX4_runs 141 = .ok (.ireturn, 1) := by decide +kernel
theorem dX4_runs_142 : decode cX4_runs 142 = .ok (.iload 4, 2) := by decide +kernel
theorem dX4_runs_144 : decode cX4_runs 144 = .ok (.ireturn, 1) := by decide +kernel
theorem dX4_runs_145 : decode cX4_runs 145 = .ok (.iload 5, 2) := by decide +kernel
theorem dX4_runs_147 : decode cX4_runs 147 = .ok (.ireturn, 1) := by decide +kernel
theorem dX4_ahead_0 : decode cX4_ahead 0 = .ok (.aload_n 0, 1) := by decide +kernel
theorem dX4_ahead_1 : decode cX4_ahead 1 = .ok (.iload_n 1, 1) := by decide +kernel
theorem dX4_ahead_2 : decode cX4_ahead 2 = .ok (.invokevirtual 105, 3) := by decide +kernel
theorem dX4_ahead_5 : decode cX4_ahead 5 = .ok (.ifCond .eq 17, 3) := by decide +kernel
theorem dX4_ahead_8 : decode cX4_ahead 8 = .ok (.iload_n 2, 1) := by decide +kernel
theorem dX4_ahead_9 : decode cX4_ahead 9 = .ok (.invokestatic 172, 3) := by decide +kernel
theorem dX4_ahead_12 : decode cX4_ahead 12 = .ok (.ifCond .eq 10, 3) := by decide +kernel
theorem dX4_ahead_15 : decode cX4_ahead 15 = .ok (.iload_n 3, 1) := by decide +kernel
theorem dX4_ahead_16 : decode cX4_ahead 16 = .ok (.invokestatic 178, 3) := by decide +kernel
theorem dX4_ahead_19 : decode cX4_ahead 19 = .ok (.ifCond .ne 5, 3) := by decide +kernel
theorem dX4_ahead_22 : decode cX4_ahead 22 = .ok (.iconst (-1), 1) := by decide +kernel
theorem dX4_ahead_23 : decode cX4_ahead 23 = .ok (.ireturn, 1) := by decide +kernel
theorem dX4_ahead_24 : decode cX4_ahead 24 = .ok (.aload_n 0, 1) := by decide +kernel
theorem dX4_ahead_25 : decode cX4_ahead 25 = .ok (.getfield 16, 3) := by decide +kernel
theorem dX4_ahead_28 : decode cX4_ahead 28 = .ok (.aload_n 0, 1) := by decide +kernel
theorem dX4_ahead_29 : decode cX4_ahead 29 = .ok (.getfield 10, 3) := by decide +kernel
theorem dX4_ahead_32 : decode cX4_ahead 32 = .ok (.invokevirtual 71, 3) := by decide +kernel
theorem dX4_ahead_35 : decode cX4_ahead 35 = .ok (.aload_n 0, 1) := by decide +kernel
theorem dX4_ahead_36 : decode cX4_ahead 36 = .ok (.getfield 16, 3) := by decide +kernel
theorem dX4_ahead_39 : decode cX4_ahead 39 = .ok (.iload_n 2, 1) := by decide +kernel
theorem dX4_ahead_40 : decode cX4_ahead 40 = .ok (.invokevirtual 169, 3) := by decide +kernel
theorem dX4_ahead_43 : decode cX4_ahead 43 = .ok (.pop, 1) := by decide +kernel
theorem dX4_ahead_44 : decode cX4_ahead 44 = .ok (.iload_n 3, 1) := by decide +kernel
theorem dX4_ahead_45 : decode cX4_ahead 45 = .ok (.ifCond .ne 15, 3) := by decide +kernel
theorem dX4_ahead_48 : decode cX4_ahead 48 = .ok (.aload_n 0, 1) := by decide +kernel
theorem dX4_ahead_49 : decode cX4_ahead 49 = .ok (.getfield 16, 3) := by decide +kernel
theorem dX4_ahead_52 : decode cX4_ahead 52 = .ok (.getfield 112, 3) := by decide +kernel
theorem dX4_ahead_55 : decode cX4_ahead 55 = .ok (.iload_n 1, 1) := by decide +kernel
theorem dX4_ahead_56 : decode cX4_ahead 56 = .ok (.iaload, 1) := by decide +kernel
theorem dX4_ahead_57 : decode cX4_ahead 57 = .ok (.goto 11, 3) := by decide +kernel
theorem dX4_ahead_60 : decode cX4_ahead 60 = .ok (.aload_n 0, 1) := by decide +kernel
theorem dX4_ahead_61 : decode cX4_ahead 61 = .ok (.getfield 16, 3) := by decide +kernel
theorem dX4_ahead_64 : decode cX4_ahead 64 = .ok (.iload_n 1, 1) := by decide +kernel
theorem dX4_ahead_65 : decode cX4_ahead 65 = .ok (.invokevirtual 118, 3) := by decide +kernel
theorem dX4_ahead_68 : decode cX4_ahead 68 = .ok (.ireturn, 1) := by decide +kernel
theorem dX4_believed_0 : decode cX4_believed 0 = .ok (.aload_n 0, 1) := by decide +kernel
theorem dX4_believed_1 : decode cX4_believed 1 = .ok (.iload_n 1, 1) := by decide +kernel
theorem dX4_believed_2 : decode cX4_believed 2 = .ok (.invokevirtual 105, 3) := by decide +kernel
theorem dX4_believed_5 : decode cX4_believed 5 = .ok (.ifCond .eq 22, 3) := by decide +kernel
theorem dX4_believed_8 : decode cX4_believed 8 = .ok (.iload_n 2, 1) := by decide +kernel
theorem dX4_believed_9 : decode cX4_believed 9 = .ok (.invokestatic 151, 3) := by decide +kernel
theorem dX4_believed_12 : decode cX4_believed 12 = .ok (.ifCond .eq 15, 3) := by decide +kernel
theorem dX4_believed_15 : decode cX4_believed 15 = .ok (.aload_n 0, 1) := by decide +kernel
theorem dX4_believed_16 : decode cX4_believed 16 = .ok (.getfield 10, 3) := by decide +kernel
theorem dX4_believed_19 : decode cX4_believed 19 = .ok (.iload_n 1, 1) := by decide +kernel
theorem dX4_believed_20 : decode cX4_believed 20 = .ok (.iload_n 2, 1) := by decide +kernel
theorem dX4_believed_21 : decode cX4_believed 21 = .ok (.invokevirtual 122, 3) := by decide +kernel
theorem dX4_believed_24 : decode cX4_believed 24 = .ok (.goto 4, 3) := by decide +kernel
theorem dX4_believed_27 : decode cX4_believed 27 = .ok (.iconst (-1), 1) := by decide +kernel
theorem dX4_believed_28 : decode cX4_believed 28 = .ok (.ireturn, 1) := by decide +kernel
theorem dX4_agrees_0 : decode cX4_agrees 0 = .ok (.aload_n 0, 1) := by decide +kernel
theorem dX4_agrees_1 : decode cX4_agrees 1 = .ok (.iload_n 1, 1) := by decide +kernel
theorem dX4_agrees_2 : decode cX4_agrees 2 = .ok (.invokevirtual 105, 3) := by decide +kernel
theorem dX4_agrees_5 : decode cX4_agrees 5 = .ok (.ifCond .ne 5, 3) := by decide +kernel
theorem dX4_agrees_8 : decode cX4_agrees 8 = .ok (.iconst (-1), 1) := by decide +kernel
theorem dX4_agrees_9 : decode cX4_agrees 9 = .ok (.ireturn, 1) := by decide +kernel
theorem dX4_agrees_10 : decode cX4_agrees 10 = .ok (.aload_n 0, 1) := by decide +kernel
theorem dX4_agrees_11 : decode cX4_agrees 11 = .ok (.getfield 16, 3) := by decide +kernel
theorem dX4_agrees_14 : decode cX4_agrees 14 = .ok (.aload_n 0, 1) := by decide +kernel
theorem dX4_agrees_15 : decode cX4_agrees 15 = .ok (.getfield 10, 3) := by decide +kernel
theorem dX4_agrees_18 : decode cX4_agrees 18 = .ok (.invokevirtual 71, 3) := by decide +kernel
theorem dX4_agrees_21 : decode cX4_agrees 21 = .ok (.iconst 0, 1) := by decide +kernel
theorem dX4_agrees_22 : decode cX4_agrees 22 = .ok (.istore_n 2, 1) := by decide +kernel
theorem dX4_agrees_23 : decode cX4_agrees 23 = .ok (.iload_n 2, 1) := by decide +kernel
theorem dX4_agrees_24 : decode cX4_agrees 24 = .ok (.bipush 60, 2) := by decide +kernel
theorem dX4_agrees_26 : decode cX4_agrees 26 = .ok (.if_icmp .gt 30, 3) := by decide +kernel
theorem dX4_agrees_29 : decode cX4_agrees 29 = .ok (.aload_n 0, 1) := by decide +kernel
theorem dX4_agrees_30 : decode cX4_agrees 30 = .ok (.getfield 16, 3) := by decide +kernel
theorem dX4_agrees_33 : decode cX4_agrees 33 = .ok (.iload_n 1, 1) := by decide +kernel
theorem dX4_agrees_34 : decode cX4_agrees 34 = .ok (.invokevirtual 181, 3) := by decide +kernel
theorem dX4_agrees_37 : decode cX4_agrees 37 = .ok (.ifCond .eq 5, 3) := by decide +kernel
theorem dX4_agrees_40 : decode cX4_agrees 40 = .ok (.iload_n 2, 1) := by decide +kernel
theorem dX4_agrees_41 : decode cX4_agrees 41 = .ok (.ireturn, 1) := by decide +kernel
theorem dX4_agrees_42 : decode cX4_agrees 42 = .ok (.aload_n 0, 1) := by decide +kernel
theorem dX4_agrees_43 : decode cX4_agrees 43 = .ok (.getfield 16, 3) := by decide +kernel
theorem dX4_agrees_46 : decode cX4_agrees 46 = .ok (.invokevirtual 175, 3) := by decide +kernel
theorem dX4_agrees_49 : decode cX4_agrees 49 = .ok (.pop, 1) := by decide +kernel
theorem dX4_agrees_50 : decode cX4_agrees 50 = .ok (.iinc 2 1, 3) := by decide +kernel
theorem dX4_agrees_53 : decode cX4_agrees 53 = .ok (.goto (-30), 3) := by decide +kernel
theorem dX4_agrees_56 : decode cX4_agrees 56 = .ok (.bipush (-4), 2) := by decide +kernel
theorem dX4_agrees_58 : decode cX4_agrees 58 = .ok (.ireturn, 1) := by decide +kernel
theorem dX4_pose_0 : decode cX4_pose 0 = .ok (.aload_n 0, 1) := by decide +kernel
theorem dX4_pose_1 : decode cX4_pose 1 = .ok (.iload_n 1, 1) := by decide +kernel
theorem dX4_pose_2 : decode cX4_pose 2 = .ok (.invokevirtual 105, 3) := by decide +kernel
theorem dX4_pose_5 : decode cX4_pose 5 = .ok (.ifCond .eq 10, 3) := by decide +kernel
theorem dX4_pose_8 : decode cX4_pose 8 = .ok (.iload_n 2, 1) := by decide +kernel
theorem dX4_pose_9 : decode cX4_pose 9 = .ok (.invokestatic 148, 3) := by decide +kernel
theorem dX4_pose_12 : decode cX4_pose 12 = .ok (.ifCond .ne 5, 3) := by decide +kernel
theorem dX4_pose_15 : decode cX4_pose 15 = .ok (.iconst (-1), 1) := by decide +kernel
theorem dX4_pose_16 : decode cX4_pose 16 = .ok (.ireturn, 1) := by decide +kernel
theorem dX4_pose_17 : decode cX4_pose 17 = .ok (.iconst 0, 1) := by decide +kernel
theorem dX4_pose_18 : decode cX4_pose 18 = .ok (.istore_n 3, 1) := by decide +kernel
theorem dX4_pose_19 : decode cX4_pose 19 = .ok (.iload_n 3, 1) := by decide +kernel
theorem dX4_pose_20 : decode cX4_pose 20 = .ok (.bipush 16, 2) := by decide +kernel
theorem dX4_pose_22 : decode cX4_pose 22 = .ok (.if_icmp .ge 48, 3) := by decide +kernel
theorem dX4_pose_25 : decode cX4_pose 25 = .ok (.aload_n 0, 1) := by decide +kernel
theorem dX4_pose_26 : decode cX4_pose 26 = .ok (.getfield 10, 3) := by decide +kernel
theorem dX4_pose_29 : decode cX4_pose 29 = .ok (.getfield 108, 3) := by decide +kernel
theorem dX4_pose_32 : decode cX4_pose 32 = .ok (.iload_n 1, 1) := by decide +kernel
theorem dX4_pose_33 : decode cX4_pose 33 = .ok (.iaload, 1) := by decide +kernel
theorem dX4_pose_34 : decode cX4_pose 34 = .ok (.iload_n 3, 1) := by decide +kernel
theorem dX4_pose_35 : decode cX4_pose 35 = .ok (.invokestatic 184, 3) := by decide +kernel
theorem dX4_pose_38 : decode cX4_pose 38 = .ok (.iload_n 2, 1) := by decide +kernel
theorem dX4_pose_39 : decode cX4_pose 39 = .ok (.if_icmp .ne 25, 3) := by decide +kernel
theorem dX4_pose_42 : decode cX4_pose 42 = .ok (.aload_n 0, 1) := by decide +kernel
theorem dX4_pose_43 : decode cX4_pose 43 = .ok (.getfield 10, 3) := by decide +kernel
theorem dX4_pose_46 : decode cX4_pose 46 = .ok (.iload_n 3, 1) := by decide +kernel
theorem dX4_pose_47 : decode cX4_pose 47 = .ok (.aload_n 0, 1) := by decide +kernel
theorem dX4_pose_48 : decode cX4_pose 48 = .ok (.getfield 10, 3) := by decide +kernel
theorem dX4_pose_51 : decode cX4_pose 51 = .ok (.getfield 115, 3) := by decide +kernel
theorem dX4_pose_54 : decode cX4_pose 54 = .ok (.iload_n 1, 1) := by decide +kernel
theorem dX4_pose_55 : decode cX4_pose 55 = .ok (.iaload, 1) := by decide +kernel
theorem dX4_pose_56 : decode cX4_pose 56 = .ok (.invokevirtual 126, 3) := by decide +kernel
theorem dX4_pose_59 : decode cX4_pose 59 = .ok (.ifCond .eq 5, 3) := by decide +kernel
theorem dX4_pose_62 : decode cX4_pose 62 = .ok (.iload_n 3, 1) := by decide +kernel
theorem dX4_pose_63 : decode cX4_pose 63 = .ok (.ireturn, 1) := by decide +kernel
theorem dX4_pose_64 : decode cX4_pose 64 = .ok (.iinc 3 1, 3) := by decide +kernel
theorem dX4_pose_67 : decode cX4_pose 67 = .ok (.goto (-48), 3) := by decide +kernel
theorem dX4_pose_70 : decode cX4_pose 70 = .ok (.bipush (-4), 2) := by decide +kernel
theorem dX4_pose_72 : decode cX4_pose 72 = .ok (.ireturn, 1) := by decide +kernel
theorem dX4_heavy_0 : decode cX4_heavy 0 = .ok (.aload_n 0, 1) := by decide +kernel
theorem dX4_heavy_1 : decode cX4_heavy 1 = .ok (.iload_n 1, 1) := by decide +kernel
theorem dX4_heavy_2 : decode cX4_heavy 2 = .ok (.invokevirtual 105, 3) := by decide +kernel
theorem dX4_heavy_5 : decode cX4_heavy 5 = .ok (.ifCond .eq 10, 3) := by decide +kernel
theorem dX4_heavy_8 : decode cX4_heavy 8 = .ok (.iload_n 2, 1) := by decide +kernel
theorem dX4_heavy_9 : decode cX4_heavy 9 = .ok (.invokestatic 148, 3) := by decide +kernel
theorem dX4_heavy_12 : decode cX4_heavy 12 = .ok (.ifCond .ne 5, 3) := by decide +kernel
theorem dX4_heavy_15 : decode cX4_heavy 15 = .ok (.iconst (-1), 1) := by decide +kernel
theorem dX4_heavy_16 : decode cX4_heavy 16 = .ok (.ireturn, 1) := by decide +kernel
theorem dX4_heavy_17 : decode cX4_heavy 17 = .ok (.iconst 0, 1) := by decide +kernel
theorem dX4_heavy_18 : decode cX4_heavy 18 = .ok (.istore_n 3, 1) := by decide +kernel
theorem dX4_heavy_19 : decode cX4_heavy 19 = .ok (.iconst 0, 1) := by decide +kernel
theorem dX4_heavy_20 : decode cX4_heavy 20 = .ok (.istore 4, 2) := by decide +kernel
theorem dX4_heavy_22 : decode cX4_heavy 22 = .ok (.iload 4, 2) := by decide +kernel
theorem dX4_heavy_24 : decode cX4_heavy 24 = .ok (.bipush 16, 2) := by decide +kernel
theorem dX4_heavy_26 : decode cX4_heavy 26 = .ok (.if_icmp .ge 45, 3) := by decide +kernel
theorem dX4_heavy_29 : decode cX4_heavy 29 = .ok (.aload_n 0, 1) := by decide +kernel
theorem dX4_heavy_30 : decode cX4_heavy 30 = .ok (.getfield 10, 3) := by decide +kernel
theorem dX4_heavy_33 : decode cX4_heavy 33 = .ok (.getfield 108, 3) := by decide +kernel
theorem dX4_heavy_36 : decode cX4_heavy 36 = .ok (.iload_n 1, 1) := by decide +kernel
theorem dX4_heavy_37 : decode cX4_heavy 37 = .ok (.iaload, 1) := by decide +kernel
theorem dX4_heavy_38 : decode cX4_heavy 38 = .ok (.iload 4, 2) := by decide +kernel
theorem dX4_heavy_40 : decode cX4_heavy 40 = .ok (.invokestatic 184, 3) := by decide +kernel
theorem dX4_heavy_43 : decode cX4_heavy 43 = .ok (.iload_n 2, 1) := by decide +kernel
theorem dX4_heavy_44 : decode cX4_heavy 44 = .ok (.if_icmp .ne 21, 3) := by decide +kernel
theorem dX4_heavy_47 : decode cX4_heavy 47 = .ok (.iload_n 3, 1) := by decide +kernel
theorem dX4_heavy_48 : decode cX4_heavy 48 = .ok (.iload 4, 2) := by decide +kernel
theorem dX4_heavy_50 : decode cX4_heavy 50 = .ok (.invokestatic 187, 3) := by decide +kernel
theorem dX4_heavy_53 : decode cX4_heavy 53 = .ok (.aload_n 0, 1) := by decide +kernel
theorem dX4_heavy_54 : decode cX4_heavy 54 = .ok (.getfield 10, 3) := by decide +kernel
theorem dX4_heavy_57 : decode cX4_heavy 57 = .ok (.getfield 95, 3) := by decide +kernel
theorem dX4_heavy_60 : decode cX4_heavy 60 = .ok (.imul, 1) := by decide +kernel
theorem dX4_heavy_61 : decode cX4_heavy 61 = .ok (.invokestatic 190, 3) := by decide +kernel
theorem dX4_heavy_64 : decode cX4_heavy 64 = .ok (.istore_n 3, 1) := by decide +kernel
theorem dX4_heavy_65 : decode cX4_heavy 65 = .ok (.iinc 4 1, 3) := by decide +kernel
theorem dX4_heavy_68 : decode cX4_heavy 68 = .ok (.goto (-46), 3) := by decide +kernel
theorem dX4_heavy_71 : decode cX4_heavy 71 = .ok (.iload_n 3, 1) := by decide +kernel
theorem dX4_heavy_72 : decode cX4_heavy 72 = .ok (.ifCond .ne 8, 3) := by decide +kernel
theorem dX4_heavy_75 : decode cX4_heavy 75 = .ok (.bipush (-4), 2) := by decide +kernel
theorem dX4_heavy_77 : decode cX4_heavy 77 = .ok (.goto 9, 3) := by decide +kernel
theorem dX4_heavy_80 : decode cX4_heavy 80 = .ok (.iload_n 3, 1) := by decide +kernel
theorem dX4_heavy_81 : decode cX4_heavy 81 = .ok (.bipush 99, 2) := by decide +kernel
theorem dX4_heavy_83 : decode cX4_heavy 83 = .ok (.invokestatic 195, 3) := by decide +kernel
theorem dX4_heavy_86 : decode cX4_heavy 86 = .ok (.ireturn, 1) := by decide +kernel
theorem dX4_need_0 : decode cX4_need 0 = .ok (.aload_n 0, 1) := by decide +kernel
theorem dX4_need_1 : decode cX4_need 1 = .ok (.getfield 16, 3) := by decide +kernel
theorem dX4_need_4 : decode cX4_need 4 = .ok (.aload_n 0, 1) := by decide +kernel
theorem dX4_need_5 : decode cX4_need 5 = .ok (.getfield 10, 3) := by decide +kernel
theorem dX4_need_8 : decode cX4_need 8 = .ok (.invokevirtual 71, 3) := by decide +kernel
theorem dX4_need_11 : decode cX4_need 11 = .ok (.iconst 1, 1) := by decide +kernel
theorem dX4_need_12 : decode cX4_need 12 = .ok (.aload_n 0, 1) := by decide +kernel
theorem dX4_need_13 : decode cX4_need 13 = .ok (.getfield 10, 3) := by decide +kernel
theorem dX4_need_16 : decode cX4_need 16 = .ok (.getfield 83, 3) := by decide +kernel
theorem dX4_need_19 : decode cX4_need 19 = .ok (.ishl, 1) := by decide +kernel
theorem dX4_need_20 : decode cX4_need 20 = .ok (.iconst 1, 1) := by decide +kernel
theorem dX4_need_21 : decode cX4_need 21 = .ok (.isub, 1) := by decide +kernel
theorem dX4_need_22 : decode cX4_need 22 = .ok (.istore_n 1, 1) := by decide +kernel
theorem dX4_need_23 : decode cX4_need 23 = .ok (.iconst 1, 1) := by decide +kernel
theorem dX4_need_24 : decode cX4_need 24 = .ok (.istore_n 2, 1) := by decide +kernel
theorem dX4_need_25 : decode cX4_need 25 = .ok (.iload_n 2, 1) := by decide +kernel
theorem dX4_need_26 : decode cX4_need 26 = .ok (.bipush 99, 2) := by decide +kernel
theorem dX4_need_28 : decode cX4_need 28 = .ok (.if_icmp .gt 30, 3) := by decide +kernel
theorem dX4_need_31 : decode cX4_need 31 = .ok (.aload_n 0, 1) := by decide +kernel
theorem dX4_need_32 : decode cX4_need 32 = .ok (.getfield 16, 3) := by decide +kernel
theorem dX4_need_35 : decode cX4_need 35 = .ok (.iload_n 2, 1) := by decide +kernel
theorem dX4_need_36 : decode cX4_need 36 = .ok (.putfield 95, 3) := by decide +kernel
theorem dX4_need_39 : decode cX4_need 39 = .ok (.aload_n 0, 1) := by decide +kernel
theorem dX4_need_40 : decode cX4_need 40 = .ok (.getfield 16, 3) := by decide +kernel
theorem dX4_need_43 : decode cX4_need 43 = .ok (.invokevirtual 102, 3) := by decide +kernel
theorem dX4_need_46 : decode cX4_need 46 = .ok (.iload_n 1, 1) := by decide +kernel
theorem dX4_need_47 : decode cX4_need 47 = .ok (.if_icmp .ne 5, 3) := by decide +kernel
theorem dX4_need_50 : decode cX4_need 50 = .ok (.iload_n 2, 1) := by decide +kernel
theorem dX4_need_51 : decode cX4_need 51 = .ok (.ireturn, 1) := by decide +kernel
theorem dX4_need_52 : decode cX4_need 52 = .ok (.iinc 2 1, 3) := by decide +kernel
theorem dX4_need_55 : decode cX4_need 55 = .ok (.goto (-30), 3) := by decide +kernel
theorem dX4_need_58 : decode cX4_need 58 = .ok (.bipush (-4), 2) := by decide +kernel
theorem dX4_need_60 : decode cX4_need 60 = .ok (.ireturn, 1) := by decide +kernel
theorem dX4_liar_0 : decode cX4_liar 0 = .ok (.iload_n 1, 1) := by decide +kernel
theorem dX4_liar_1 : decode cX4_liar 1 = .ok (.invokestatic 172, 3) := by decide +kernel
theorem dX4_liar_4 : decode cX4_liar 4 = .ok (.ifCond .eq 10, 3) := by decide +kernel
theorem dX4_liar_7 : decode cX4_liar 7 = .ok (.iload_n 2, 1) := by decide +kernel
theorem dX4_liar_8 : decode cX4_liar 8 = .ok (.invokestatic 178, 3) := by decide +kernel
theorem dX4_liar_11 : decode cX4_liar 11 = .ok (.ifCond .ne 5, 3) := by decide +kernel
theorem dX4_liar_14 : decode cX4_liar 14 = .ok (.iconst (-1), 1) := by decide +kernel
theorem dX4_liar_15 : decode cX4_liar 15 = .ok (.ireturn, 1) := by decide +kernel
theorem dX4_liar_16 : decode cX4_liar 16 = .ok (.aload_n 0, 1) := by decide +kernel
theorem dX4_liar_17 : decode cX4_liar 17 = .ok (.getfield 16, 3) := by decide +kernel
theorem dX4_liar_20 : decode cX4_liar 20 = .ok (.aload_n 0, 1) := by decide +kernel
theorem dX4_liar_21 : decode cX4_liar 21 = .ok (.getfield 10, 3) := by decide +kernel
theorem dX4_liar_24 : decode cX4_liar 24 = .ok (.invokevirtual 71, 3) := by decide +kernel
theorem dX4_liar_27 : decode cX4_liar 27 = .ok (.aload_n 0, 1) := by decide +kernel
theorem dX4_liar_28 : decode cX4_liar 28 = .ok (.getfield 16, 3) := by decide +kernel
theorem dX4_liar_31 : decode cX4_liar 31 = .ok (.iload_n 1, 1) := by decide +kernel
theorem dX4_liar_32 : decode cX4_liar 32 = .ok (.invokevirtual 169, 3) := by decide +kernel
theorem dX4_liar_35 : decode cX4_liar 35 = .ok (.istore_n 3, 1) := by decide +kernel
theorem dX4_liar_36 : decode cX4_liar 36 = .ok (.bipush (-4), 2) := by decide +kernel
theorem dX4_liar_38 : decode cX4_liar 38 = .ok (.istore 4, 2) := by decide +kernel
theorem dX4_liar_40 : decode cX4_liar 40 = .ok (.iconst 0, 1) := by decide +kernel
theorem dX4_liar_41 : decode cX4_liar 41 = .ok (.istore 5, 2) := by decide +kernel
theorem dX4_liar_43 : decode cX4_liar 43 = .ok (.iload 5, 2) := by decide +kernel
theorem dX4_liar_45 : decode cX4_liar 45 = .ok (.iconst 4, 1) := by decide +kernel
theorem dX4_liar_46 : decode cX4_liar 46 = .ok (.if_icmp .ge 54, 3) := by decide +kernel
theorem dX4_liar_49 : decode cX4_liar 49 = .ok (.aload_n 0, 1) := by decide +kernel
theorem dX4_liar_50 : decode cX4_liar 50 = .ok (.getfield 16, 3) := by decide +kernel
theorem dX4_liar_53 : decode cX4_liar 53 = .ok (.aload_n 0, 1) := by decide +kernel
theorem dX4_liar_54 : decode cX4_liar 54 = .ok (.getfield 10, 3) := by decide +kernel
theorem dX4_liar_57 : decode cX4_liar 57 = .ok (.invokevirtual 71, 3) := by decide +kernel
theorem dX4_liar_60 : decode cX4_liar 60 = .ok (.aload_n 0, 1) := by decide +kernel
theorem dX4_liar_61 : decode cX4_liar 61 = .ok (.getfield 16, 3) := by decide +kernel
theorem dX4_liar_64 : decode cX4_liar 64 = .ok (.getfield 145, 3) := by decide +kernel
theorem dX4_liar_67 : decode cX4_liar 67 = .ok (.iload 5, 2) := by decide +kernel
theorem dX4_liar_69 : decode cX4_liar 69 = .ok (.iconst 0, 1) := by decide +kernel
theorem dX4_liar_70 : decode cX4_liar 70 = .ok (.iastore, 1) := by decide +kernel
theorem dX4_liar_71 : decode cX4_liar 71 = .ok (.aload_n 0, 1) := by decide +kernel
theorem dX4_liar_72 : decode cX4_liar 72 = .ok (.getfield 16, 3) := by decide +kernel
theorem dX4_liar_75 : decode cX4_liar 75 = .ok (.iload_n 1, 1) := by decide +kernel
theorem dX4_liar_76 : decode cX4_liar 76 = .ok (.invokevirtual 169, 3) := by decide +kernel
theorem dX4_liar_79 : decode cX4_liar 79 = .ok (.istore 6, 2) := by decide +kernel
theorem dX4_liar_81 : decode cX4_liar 81 = .ok (.iload 6, 2) := by decide +kernel
theorem dX4_liar_83 : decode cX4_liar 83 = .ok (.iload_n 3, 1) := by decide +kernel
theorem dX4_liar_84 : decode cX4_liar 84 = .ok (.if_icmp .ge 10, 3) := by decide +kernel
theorem dX4_liar_87 : decode cX4_liar 87 = .ok (.iload 6, 2) := by decide +kernel
theorem dX4_liar_89 : decode cX4_liar 89 = .ok (.istore_n 3, 1) := by decide +kernel
theorem dX4_liar_90 : decode cX4_liar 90 = .ok (.iload 5, 2) := by decide +kernel
theorem dX4_liar_92 : decode cX4_liar 92 = .ok (.istore 4, 2) := by decide +kernel
theorem dX4_liar_94 : decode cX4_liar 94 = .ok (.iinc 5 1, 3) := by decide +kernel
theorem dX4_liar_97 : decode cX4_liar 97 = .ok (.goto (-54), 3) := by decide +kernel
theorem dX4_liar_100 : decode cX4_liar 100 = .ok (.iload_n 2, 1) := by decide +kernel
theorem dX4_liar_101 : decode cX4_liar 101 = .ok (.ifCond .eq 10, 3) := by decide +kernel
theorem dX4_liar_104 : decode cX4_liar 104 = .ok (.iload 4, 2) := by decide +kernel
theorem dX4_liar_106 : decode cX4_liar 106 = .ok (.bipush (-4), 2) := by decide +kernel
theorem dX4_liar_108 : decode cX4_liar 108 = .ok (.if_icmp .ne 8, 3) := by decide +kernel
theorem dX4_liar_111 : decode cX4_liar 111 = .ok (.iload 4, 2) := by decide +kernel
theorem dX4_liar_113 : decode cX4_liar 113 = .ok (.goto 4, 3) := by decide +kernel
theorem dX4_liar_116 : decode cX4_liar 116 = .ok (.iload_n 3, 1) := by decide +kernel
theorem dX4_liar_117 : decode cX4_liar 117 = .ok (.ireturn, 1) := by decide +kernel
theorem dX4_lose_0 : decode cX4_lose 0 = .ok (.iload_n 1, 1) := by decide +kernel
theorem dX4_lose_1 : decode cX4_lose 1 = .ok (.invokestatic 172, 3) := by decide +kernel
theorem dX4_lose_4 : decode cX4_lose 4 = .ok (.ifCond .eq 10, 3) := by decide +kernel
theorem dX4_lose_7 : decode cX4_lose 7 = .ok (.iload_n 2, 1) := by decide +kernel
theorem dX4_lose_8 : decode cX4_lose 8 = .ok (.invokestatic 178, 3) := by decide +kernel
theorem dX4_lose_11 : decode cX4_lose 11 = .ok (.ifCond .ne 5, 3) := by decide +kernel
theorem dX4_lose_14 : decode cX4_lose 14 = .ok (.iconst (-1), 1) := by decide +kernel
theorem dX4_lose_15 : decode cX4_lose 15 = .ok (.ireturn, 1) := by decide +kernel
theorem dX4_lose_16 : decode cX4_lose 16 = .ok (.aload_n 0, 1) := by decide +kernel
theorem dX4_lose_17 : decode cX4_lose 17 = .ok (.getfield 16, 3) := by decide +kernel
theorem dX4_lose_20 : decode cX4_lose 20 = .ok (.aload_n 0, 1) := by decide +kernel
theorem dX4_lose_21 : decode cX4_lose 21 = .ok (.getfield 10, 3) := by decide +kernel
theorem dX4_lose_24 : decode cX4_lose 24 = .ok (.invokevirtual 71, 3) := by decide +kernel
theorem dX4_lose_27 : decode cX4_lose 27 = .ok (.aload_n 0, 1) := by decide +kernel
theorem dX4_lose_28 : decode cX4_lose 28 = .ok (.iload_n 1, 1) := by decide +kernel
theorem dX4_lose_29 : decode cX4_lose 29 = .ok (.invokevirtual 198, 3) := by decide +kernel
theorem dX4_lose_32 : decode cX4_lose 32 = .ok (.istore_n 3, 1) := by decide +kernel
theorem dX4_lose_33 : decode cX4_lose 33 = .ok (.bipush (-4), 2) := by decide +kernel
theorem dX4_lose_35 : decode cX4_lose 35 = .ok (.istore 4, 2) := by decide +kernel
theorem dX4_lose_37 : decode cX4_lose 37 = .ok (.iconst 0, 1) := by decide +kernel
theorem dX4_lose_38 : decode cX4_lose 38 = .ok (.istore 5, 2) := by decide +kernel
theorem dX4_lose_40 : decode cX4_lose 40 = .ok (.iload 5, 2) := by decide +kernel
theorem dX4_lose_42 : decode cX4_lose 42 = .ok (.aload_n 0, 1) := by decide +kernel
theorem dX4_lose_43 : decode cX4_lose 43 = .ok (.getfield 10, 3) := by decide +kernel
theorem dX4_lose_46 : decode cX4_lose 46 = .ok (.getfield 86, 3) := by decide +kernel
theorem dX4_lose_49 : decode cX4_lose 49 = .ok (.if_icmp .ge 51, 3) := by decide +kernel
theorem dX4_lose_52 : decode cX4_lose 52 = .ok (.aload_n 0, 1) := by decide +kernel
theorem dX4_lose_53 : decode cX4_lose 53 = .ok (.getfield 16, 3) := by decide +kernel
theorem dX4_lose_56 : decode cX4_lose 56 = .ok (.aload_n 0, 1) := by decide +kernel
theorem dX4_lose_57 : decode cX4_lose 57 = .ok (.getfield 10, 3) := by decide +kernel
theorem dX4_lose_60 : decode cX4_lose 60 = .ok (.invokevirtual 71, 3) := by decide +kernel
theorem dX4_lose_63 : decode cX4_lose 63 = .ok (.aload_n 0, 1) := by decide +kernel
theorem dX4_lose_64 : decode cX4_lose 64 = .ok (.getfield 16, 3) := by decide +kernel
theorem dX4_lose_67 : decode cX4_lose 67 = .ok (.iconst 1, 1) := by decide +kernel
theorem dX4_lose_68 : decode cX4_lose 68 = .ok (.iload 5, 2) := by decide +kernel
theorem dX4_lose_70 : decode cX4_lose 70 = .ok (.ishl, 1) := by decide +kernel
theorem dX4_lose_71 : decode cX4_lose 71 = .ok (.putfield 201, 3) := by decide +kernel
theorem dX4_lose_74 : decode cX4_lose 74 = .ok (.aload_n 0, 1) := by decide +kernel
theorem dX4_lose_75 : decode cX4_lose 75 = .ok (.iload_n 1, 1) := by decide +kernel
theorem dX4_lose_76 : decode cX4_lose 76 = .ok (.invokevirtual 198, 3) := by decide +kernel
theorem dX4_lose_79 : decode cX4_lose 79 = .ok (.istore 6, 2) := by decide +kernel
theorem dX4_lose_81 : decode cX4_lose 81 = .ok (.iload 6, 2) := by decide +kernel
theorem dX4_lose_83 : decode cX4_lose 83 = .ok (.iload_n 3, 1) := by decide +kernel
theorem dX4_lose_84 : decode cX4_lose 84 = .ok (.if_icmp .le 10, 3) := by decide +kernel
theorem dX4_lose_87 : decode cX4_lose 87 = .ok (.iload 6, 2) := by decide +kernel
theorem dX4_lose_89 : decode cX4_lose 89 = .ok (.istore_n 3, 1) := by decide +kernel
theorem dX4_lose_90 : decode cX4_lose 90 = .ok (.iload 5, 2) := by decide +kernel
theorem dX4_lose_92 : decode cX4_lose 92 = .ok (.istore 4, 2) := by decide +kernel
theorem dX4_lose_94 : decode cX4_lose 94 = .ok (.iinc 5 1, 3) := by decide +kernel
theorem dX4_lose_97 : decode cX4_lose 97 = .ok (.goto (-57), 3) := by decide +kernel
theorem dX4_lose_100 : decode cX4_lose 100 = .ok (.iload_n 2, 1) := by decide +kernel
theorem dX4_lose_101 : decode cX4_lose 101 = .ok (.ifCond .eq 10, 3) := by decide +kernel
theorem dX4_lose_104 : decode cX4_lose 104 = .ok (.iload 4, 2) := by decide +kernel
theorem dX4_lose_106 : decode cX4_lose 106 = .ok (.bipush (-4), 2) := by decide +kernel
theorem dX4_lose_108 : decode cX4_lose 108 = .ok (.if_icmp .ne 8, 3) := by decide +kernel
theorem dX4_lose_111 : decode cX4_lose 111 = .ok (.iload 4, 2) := by decide +kernel
theorem dX4_lose_113 : decode cX4_lose 113 = .ok (.goto 4, 3) := by decide +kernel
theorem dX4_lose_116 : decode cX4_lose 116 = .ok (.iload_n 3, 1) := by decide +kernel
theorem dX4_lose_117 : decode cX4_lose 117 = .ok (.ireturn, 1) := by decide +kernel
theorem dX4_swap_0 : decode cX4_swap 0 = .ok (.iload_n 1, 1) := by decide +kernel
theorem dX4_swap_1 : decode cX4_swap 1 = .ok (.invokestatic 172, 3) := by decide +kernel
theorem dX4_swap_4 : decode cX4_swap 4 = .ok (.ifCond .eq 10, 3) := by decide +kernel
theorem dX4_swap_7 : decode cX4_swap 7 = .ok (.iload_n 2, 1) := by decide +kernel
theorem dX4_swap_8 : decode cX4_swap 8 = .ok (.invokestatic 178, 3) := by decide +kernel
theorem dX4_swap_11 : decode cX4_swap 11 = .ok (.ifCond .ne 5, 3) := by decide +kernel
theorem dX4_swap_14 : decode cX4_swap 14 = .ok (.iconst (-1), 1) := by decide +kernel
theorem dX4_swap_15 : decode cX4_swap 15 = .ok (.ireturn, 1) := by decide +kernel
theorem dX4_swap_16 : decode cX4_swap 16 = .ok (.aload_n 0, 1) := by decide +kernel
theorem dX4_swap_17 : decode cX4_swap 17 = .ok (.getfield 16, 3) := by decide +kernel
theorem dX4_swap_20 : decode cX4_swap 20 = .ok (.aload_n 0, 1) := by decide +kernel
theorem dX4_swap_21 : decode cX4_swap 21 = .ok (.getfield 10, 3) := by decide +kernel
theorem dX4_swap_24 : decode cX4_swap 24 = .ok (.invokevirtual 71, 3) := by decide +kernel
theorem dX4_swap_27 : decode cX4_swap 27 = .ok (.aload_n 0, 1) := by decide +kernel
theorem dX4_swap_28 : decode cX4_swap 28 = .ok (.iload_n 1, 1) := by decide +kernel
theorem dX4_swap_29 : decode cX4_swap 29 = .ok (.invokevirtual 198, 3) := by decide +kernel
theorem dX4_swap_32 : decode cX4_swap 32 = .ok (.istore_n 3, 1) := by decide +kernel
theorem dX4_swap_33 : decode cX4_swap 33 = .ok (.bipush (-4), 2) := by decide +kernel
theorem dX4_swap_35 : decode cX4_swap 35 = .ok (.istore 4, 2) := by decide +kernel
theorem dX4_swap_37 : decode cX4_swap 37 = .ok (.iconst 0, 1) := by decide +kernel
theorem dX4_swap_38 : decode cX4_swap 38 = .ok (.istore 5, 2) := by decide +kernel
theorem dX4_swap_40 : decode cX4_swap 40 = .ok (.iload 5, 2) := by decide +kernel
theorem dX4_swap_42 : decode cX4_swap 42 = .ok (.aload_n 0, 1) := by decide +kernel
theorem dX4_swap_43 : decode cX4_swap 43 = .ok (.getfield 10, 3) := by decide +kernel
theorem dX4_swap_46 : decode cX4_swap 46 = .ok (.getfield 86, 3) := by decide +kernel
theorem dX4_swap_49 : decode cX4_swap 49 = .ok (.if_icmp .ge 110, 3) := by decide +kernel
theorem dX4_swap_52 : decode cX4_swap 52 = .ok (.iload 5, 2) := by decide +kernel
theorem dX4_swap_54 : decode cX4_swap 54 = .ok (.iconst 1, 1) := by decide +kernel
theorem dX4_swap_55 : decode cX4_swap 55 = .ok (.iadd, 1) := by decide +kernel
theorem dX4_swap_56 : decode cX4_swap 56 = .ok (.istore 6, 2) := by decide +kernel
theorem dX4_swap_58 : decode cX4_swap 58 = .ok (.iload 6, 2) := by decide +kernel
theorem dX4_swap_60 : decode cX4_swap 60 = .ok (.aload_n 0, 1) := by decide +kernel
theorem dX4_swap_61 : decode cX4_swap 61 = .ok (.getfield 10, 3) := by decide +kernel
theorem dX4_swap_64 : decode cX4_swap 64 = .ok (.getfield 86, 3) := by decide +kernel
theorem dX4_swap_67 : decode cX4_swap 67 = .ok (.if_icmp .ge 86, 3) := by decide +kernel
theorem dX4_swap_70 : decode cX4_swap 70 = .ok (.aload_n 0, 1) := by decide +kernel
theorem dX4_swap_71 : decode cX4_swap 71 = .ok (.getfield 16, 3) := by decide +kernel
theorem dX4_swap_74 : decode cX4_swap 74 = .ok (.aload_n 0, 1) := by decide +kernel
theorem dX4_swap_75 : decode cX4_swap 75 = .ok (.getfield 10, 3) := by decide +kernel
theorem dX4_swap_78 : decode cX4_swap 78 = .ok (.invokevirtual 71, 3) := by decide +kernel
theorem dX4_swap_81 : decode cX4_swap 81 = .ok (.aload_n 0, 1) := by decide +kernel
theorem dX4_swap_82 : decode cX4_swap 82 = .ok (.getfield 16, 3) := by decide +kernel
theorem dX4_swap_85 : decode cX4_swap 85 = .ok (.getfield 136, 3) := by decide +kernel
theorem dX4_swap_88 : decode cX4_swap 88 = .ok (.iload 5, 2) := by decide +kernel
theorem dX4_swap_90 : decode cX4_swap 90 = .ok (.aload_n 0, 1) := by decide +kernel
theorem dX4_swap_91 : decode cX4_swap 91 = .ok (.getfield 10, 3) := by decide +kernel
theorem dX4_swap_94 : decode cX4_swap 94 = .ok (.getfield 136, 3) := by decide +kernel
theorem dX4_swap_97 : decode cX4_swap 97 = .ok (.iload 6, 2) := by decide +kernel
theorem dX4_swap_99 : decode cX4_swap 99 = .ok (.iaload, 1) := by decide +kernel
theorem dX4_swap_100 : decode cX4_swap 100 = .ok (.iastore, 1) := by decide +kernel
theorem dX4_swap_101 : decode cX4_swap 101 = .ok (.aload_n 0, 1) := by decide +kernel
theorem dX4_swap_102 : decode cX4_swap 102 = .ok (.getfield 16, 3) := by decide +kernel
theorem dX4_swap_105 : decode cX4_swap 105 = .ok (.getfield 136, 3) := by decide +kernel
theorem dX4_swap_108 : decode cX4_swap 108 = .ok (.iload 6, 2) := by decide +kernel
theorem dX4_swap_110 : decode cX4_swap 110 = .ok (.aload_n 0, 1) := by decide +kernel
theorem dX4_swap_111 : decode cX4_swap 111 = .ok (.getfield 10, 3) := by decide +kernel
theorem dX4_swap_114 : decode cX4_swap 114 = .ok (.getfield 136, 3) := by decide +kernel
theorem dX4_swap_117 : decode cX4_swap 117 = .ok (.iload 5, 2) := by decide +kernel
theorem dX4_swap_119 : decode cX4_swap 119 = .ok (.iaload, 1) := by decide +kernel
theorem dX4_swap_120 : decode cX4_swap 120 = .ok (.iastore, 1) := by decide +kernel
theorem dX4_swap_121 : decode cX4_swap 121 = .ok (.aload_n 0, 1) := by decide +kernel
theorem dX4_swap_122 : decode cX4_swap 122 = .ok (.iload_n 1, 1) := by decide +kernel
theorem dX4_swap_123 : decode cX4_swap 123 = .ok (.invokevirtual 198, 3) := by decide +kernel
theorem dX4_swap_126 : decode cX4_swap 126 = .ok (.istore 7, 2) := by decide +kernel
theorem dX4_swap_128 : decode cX4_swap 128 = .ok (.iload 7, 2) := by decide +kernel
theorem dX4_swap_130 : decode cX4_swap 130 = .ok (.iload_n 3, 1) := by decide +kernel
theorem dX4_swap_131 : decode cX4_swap 131 = .ok (.if_icmp .le 16, 3) := by decide +kernel
theorem dX4_swap_134 : decode cX4_swap 134 = .ok (.iload 7, 2) := by decide +kernel
theorem dX4_swap_136 : decode cX4_swap 136 = .ok (.istore_n 3, 1) := by decide +kernel
theorem dX4_swap_137 : decode cX4_swap 137 = .ok (.bipush 10, 2) := by decide +kernel
theorem dX4_swap_139 : decode cX4_swap 139 = .ok (.iload 5, 2) := by decide +kernel
theorem dX4_swap_141 : decode cX4_swap 141 = .ok (.imul, 1) := by decide +kernel
theorem dX4_swap_142 : decode cX4_swap 142 = .ok (.iload 6, 2) := by decide +kernel
theorem dX4_swap_144 : decode cX4_swap 144 = .ok (.iadd, 1) := by decide +kernel
theorem dX4_swap_145 : decode cX4_swap 145 = .ok (.istore 4, 2) := by decide +kernel
theorem dX4_swap_147 : decode cX4_swap 147 = .ok (.iinc 6 1, 3) := by decide +kernel
theorem dX4_swap_150 : decode cX4_swap 150 = .ok (.goto (-92), 3) := by decide +kernel
theorem dX4_swap_153 : decode cX4_swap 153 = .ok (.iinc 5 1, 3) := by decide +kernel
theorem dX4_swap_156 : decode cX4_swap 156 = .ok (.goto (-116), 3) := by decide +kernel
theorem dX4_swap_159 : decode cX4_swap 159 = .ok (.iload_n 2, 1) := by decide +kernel
theorem dX4_swap_160 : decode cX4_swap 160 = .ok (.ifCond .eq 10, 3) := by decide +kernel
theorem dX4_swap_163 : decode cX4_swap 163 = .ok (.iload 4, 2) := by decide +kernel
theorem dX4_swap_165 : decode cX4_swap 165 = .ok (.bipush (-4), 2) := by decide +kernel
theorem dX4_swap_167 : decode cX4_swap 167 = .ok (.if_icmp .ne 8, 3) := by decide +kernel
theorem dX4_swap_170 : decode cX4_swap 170 = .ok (.iload 4, 2) := by decide +kernel
theorem dX4_swap_172 : decode cX4_swap 172 = .ok (.goto 4, 3) := by decide +kernel
theorem dX4_swap_175 : decode cX4_swap 175 = .ok (.iload_n 3, 1) := by decide +kernel
theorem dX4_swap_176 : decode cX4_swap 176 = .ok (.ireturn, 1) := by decide +kernel
theorem dX4_gain_0 : decode cX4_gain 0 = .ok (.iload_n 1, 1) := by decide +kernel
theorem dX4_gain_1 : decode cX4_gain 1 = .ok (.invokestatic 142, 3) := by decide +kernel
theorem dX4_gain_4 : decode cX4_gain 4 = .ok (.ifCond .eq 26, 3) := by decide +kernel
theorem dX4_gain_7 : decode cX4_gain 7 = .ok (.aload_n 0, 1) := by decide +kernel
theorem dX4_gain_8 : decode cX4_gain 8 = .ok (.iload_n 2, 1) := by decide +kernel
theorem dX4_gain_9 : decode cX4_gain 9 = .ok (.invokevirtual 105, 3) := by decide +kernel
theorem dX4_gain_12 : decode cX4_gain 12 = .ok (.ifCond .eq 18, 3) := by decide +kernel
theorem dX4_gain_15 : decode cX4_gain 15 = .ok (.iload_n 3, 1) := by decide +kernel
theorem dX4_gain_16 : decode cX4_gain 16 = .ok (.invokestatic 148, 3) := by decide +kernel
theorem dX4_gain_19 : decode cX4_gain 19 = .ok (.ifCond .eq 11, 3) := by decide +kernel
theorem dX4_gain_22 : decode cX4_gain 22 = .ok (.iload 4, 2) := by decide +kernel
theorem dX4_gain_24 : decode cX4_gain 24 = .ok (.invokestatic 151, 3) := by decide +kernel
theorem dX4_gain_27 : decode cX4_gain 27 = .ok (.ifCond .ne 5, 3) := by decide +kernel
theorem dX4_gain_30 : decode cX4_gain 30 = .ok (.iconst (-1), 1) := by decide +kernel
theorem dX4_gain_31 : decode cX4_gain 31 = .ok (.ireturn, 1) := by decide +kernel
theorem dX4_gain_32 : decode cX4_gain 32 = .ok (.aload_n 0, 1) := by decide +kernel
theorem dX4_gain_33 : decode cX4_gain 33 = .ok (.getfield 16, 3) := by decide +kernel
theorem dX4_gain_36 : decode cX4_gain 36 = .ok (.aload_n 0, 1) := by decide +kernel
theorem dX4_gain_37 : decode cX4_gain 37 = .ok (.getfield 10, 3) := by decide +kernel
theorem dX4_gain_40 : decode cX4_gain 40 = .ok (.invokevirtual 71, 3) := by decide +kernel
theorem dX4_gain_43 : decode cX4_gain 43 = .ok (.iconst 0, 1) := by decide +kernel
theorem dX4_gain_44 : decode cX4_gain 44 = .ok (.istore 5, 2) := by decide +kernel
theorem dX4_gain_46 : decode cX4_gain 46 = .ok (.iload 5, 2) := by decide +kernel
theorem dX4_gain_48 : decode cX4_gain 48 = .ok (.bipush 9, 2) := by decide +kernel
theorem dX4_gain_50 : decode cX4_gain 50 = .ok (.if_icmp .gt 37, 3) := by decide +kernel
theorem dX4_gain_53 : decode cX4_gain 53 = .ok (.aload_n 0, 1) := by decide +kernel
theorem dX4_gain_54 : decode cX4_gain 54 = .ok (.getfield 16, 3) := by decide +kernel
theorem dX4_gain_57 : decode cX4_gain 57 = .ok (.getfield 145, 3) := by decide +kernel
theorem dX4_gain_60 : decode cX4_gain 60 = .ok (.iload_n 1, 1) := by decide +kernel
theorem dX4_gain_61 : decode cX4_gain 61 = .ok (.iload 5, 2) := by decide +kernel
theorem dX4_gain_63 : decode cX4_gain 63 = .ok (.iastore, 1) := by decide +kernel
theorem dX4_gain_64 : decode cX4_gain 64 = .ok (.aload_n 0, 1) := by decide +kernel
theorem dX4_gain_65 : decode cX4_gain 65 = .ok (.getfield 16, 3) := by decide +kernel
theorem dX4_gain_68 : decode cX4_gain 68 = .ok (.iload_n 2, 1) := by decide +kernel
theorem dX4_gain_69 : decode cX4_gain 69 = .ok (.iload 4, 2) := by decide +kernel
theorem dX4_gain_71 : decode cX4_gain 71 = .ok (.invokevirtual 122, 3) := by decide +kernel
theorem dX4_gain_74 : decode cX4_gain 74 = .ok (.iload_n 3, 1) := by decide +kernel
theorem dX4_gain_75 : decode cX4_gain 75 = .ok (.if_icmp .ne 6, 3) := by decide +kernel
theorem dX4_gain_78 : decode cX4_gain 78 = .ok (.iload 5, 2) := by decide +kernel
theorem dX4_gain_80 : decode cX4_gain 80 = .ok (.ireturn, 1) := by decide +kernel
theorem dX4_gain_81 : decode cX4_gain 81 = .ok (.iinc 5 1, 3) := by decide +kernel
theorem dX4_gain_84 : decode cX4_gain 84 = .ok (.goto (-38), 3) := by decide +kernel
theorem dX4_gain_87 : decode cX4_gain 87 = .ok (.bipush (-4), 2) := by decide +kernel
theorem dX4_gain_89 : decode cX4_gain 89 = .ok (.ireturn, 1) := by decide +kernel
theorem dX4_kind_0 : decode cX4_kind 0 = .ok (.aload_n 0, 1) := by decide +kernel
theorem dX4_kind_1 : decode cX4_kind 1 = .ok (.iload_n 1, 1) := by decide +kernel
theorem dX4_kind_2 : decode cX4_kind 2 = .ok (.invokevirtual 105, 3) := by decide +kernel
theorem dX4_kind_5 : decode cX4_kind 5 = .ok (.ifCond .eq 17, 3) := by decide +kernel
theorem dX4_kind_8 : decode cX4_kind 8 = .ok (.iload_n 2, 1) := by decide +kernel
theorem dX4_kind_9 : decode cX4_kind 9 = .ok (.invokestatic 172, 3) := by decide +kernel
theorem dX4_kind_12 : decode cX4_kind 12 = .ok (.ifCond .eq 10, 3) := by decide +kernel
theorem dX4_kind_15 : decode cX4_kind 15 = .ok (.iload_n 3, 1) := by decide +kernel
theorem dX4_kind_16 : decode cX4_kind 16 = .ok (.invokestatic 178, 3) := by decide +kernel
theorem dX4_kind_19 : decode cX4_kind 19 = .ok (.ifCond .ne 5, 3) := by decide +kernel
theorem dX4_kind_22 : decode cX4_kind 22 = .ok (.iconst (-1), 1) := by decide +kernel
theorem dX4_kind_23 : decode cX4_kind 23 = .ok (.ireturn, 1) := by decide +kernel
theorem dX4_kind_24 : decode cX4_kind 24 = .ok (.sipush 301, 3) := by decide +kernel
theorem dX4_kind_27 : decode cX4_kind 27 = .ok (.istore 4, 2) := by decide +kernel
theorem dX4_kind_29 : decode cX4_kind 29 = .ok (.iconst 0, 1) := by decide +kernel
theorem dX4_kind_30 : decode cX4_kind 30 = .ok (.istore 5, 2) := by decide +kernel
theorem dX4_kind_32 : decode cX4_kind 32 = .ok (.iconst 0, 1) := by decide +kernel
theorem dX4_kind_33 : decode cX4_kind 33 = .ok (.istore 6, 2) := by decide +kernel
theorem dX4_kind_35 : decode cX4_kind 35 = .ok (.iload 6, 2) := by decide +kernel
theorem dX4_kind_37 : decode cX4_kind 37 = .ok (.iconst 4, 1) := by decide +kernel
theorem dX4_kind_38 : decode cX4_kind 38 = .ok (.if_icmp .ge 56, 3) := by decide +kernel
theorem dX4_kind_41 : decode cX4_kind 41 = .ok (.aload_n 0, 1) := by decide +kernel
theorem dX4_kind_42 : decode cX4_kind 42 = .ok (.getfield 16, 3) := by decide +kernel
theorem dX4_kind_45 : decode cX4_kind 45 = .ok (.aload_n 0, 1) := by decide +kernel
theorem dX4_kind_46 : decode cX4_kind 46 = .ok (.getfield 10, 3) := by decide +kernel
theorem dX4_kind_49 : decode cX4_kind 49 = .ok (.invokevirtual 71, 3) := by decide +kernel
theorem dX4_kind_52 : decode cX4_kind 52 = .ok (.aload_n 0, 1) := by decide +kernel
theorem dX4_kind_53 : decode cX4_kind 53 = .ok (.getfield 16, 3) := by decide +kernel
theorem dX4_kind_56 : decode cX4_kind 56 = .ok (.getfield 108, 3) := by decide +kernel
theorem dX4_kind_59 : decode cX4_kind 59 = .ok (.iload_n 1, 1) := by decide +kernel
theorem dX4_kind_60 : decode cX4_kind 60 = .ok (.iload 6, 2) := by decide +kernel
theorem dX4_kind_62 : decode cX4_kind 62 = .ok (.iastore, 1) := by decide +kernel
theorem dX4_kind_63 : decode cX4_kind 63 = .ok (.aload_n 0, 1) := by decide +kernel
theorem dX4_kind_64 : decode cX4_kind 64 = .ok (.getfield 16, 3) := by decide +kernel
theorem dX4_kind_67 : decode cX4_kind 67 = .ok (.iload_n 2, 1) := by decide +kernel
theorem dX4_kind_68 : decode cX4_kind 68 = .ok (.invokevirtual 169, 3) := by decide +kernel
theorem dX4_kind_71 : decode cX4_kind 71 = .ok (.istore 7, 2) := by decide +kernel
theorem dX4_kind_73 : decode cX4_kind 73 = .ok (.iload 7, 2) := by decide +kernel
theorem dX4_kind_75 : decode cX4_kind 75 = .ok (.iload 4, 2) := by decide +kernel
theorem dX4_kind_77 : decode cX4_kind 77 = .ok (.if_icmp .ge 11, 3) := by decide +kernel
theorem dX4_kind_80 : decode cX4_kind 80 = .ok (.iload 7, 2) := by decide +kernel
theorem dX4_kind_82 : decode cX4_kind 82 = .ok (.istore 4, 2) := by decide +kernel
theorem dX4_kind_84 : decode cX4_kind 84 = .ok (.iload 6, 2) := by decide +kernel
theorem dX4_kind_86 : decode cX4_kind 86 = .ok (.istore 5, 2) := by decide +kernel
theorem dX4_kind_88 : decode cX4_kind 88 = .ok (.iinc 6 1, 3) := by decide +kernel
theorem dX4_kind_91 : decode cX4_kind 91 = .ok (.goto (-56), 3) := by decide +kernel
theorem dX4_kind_94 : decode cX4_kind 94 = .ok (.iload_n 3, 1) := by decide +kernel
theorem dX4_kind_95 : decode cX4_kind 95 = .ok (.ifCond .ne 8, 3) := by decide +kernel
theorem dX4_kind_98 : decode cX4_kind 98 = .ok (.iload 5, 2) := by decide +kernel
theorem dX4_kind_100 : decode cX4_kind 100 = .ok (.goto 5, 3) := by decide +kernel
theorem dX4_kind_103 : decode cX4_kind 103 = .ok (.iload 4, 2) := by decide +kernel
theorem dX4_kind_105 : decode cX4_kind 105 = .ok (.ireturn, 1) := by decide +kernel
theorem dX4_luck_0 : decode cX4_luck 0 = .ok (.iload_n 1, 1) := by decide +kernel
theorem dX4_luck_1 : decode cX4_luck 1 = .ok (.invokestatic 204, 3) := by decide +kernel
theorem dX4_luck_4 : decode cX4_luck 4 = .ok (.ifCond .eq 34, 3) := by decide +kernel
theorem dX4_luck_7 : decode cX4_luck 7 = .ok (.aload_n 0, 1) := by decide +kernel
theorem dX4_luck_8 : decode cX4_luck 8 = .ok (.iload_n 2, 1) := by decide +kernel
theorem dX4_luck_9 : decode cX4_luck 9 = .ok (.invokevirtual 105, 3) := by decide +kernel
theorem dX4_luck_12 : decode cX4_luck 12 = .ok (.ifCond .eq 26, 3) := by decide +kernel
theorem dX4_luck_15 : decode cX4_luck 15 = .ok (.iload_n 3, 1) := by decide +kernel
theorem dX4_luck_16 : decode cX4_luck 16 = .ok (.invokestatic 148, 3) := by decide +kernel
theorem dX4_luck_19 : decode cX4_luck 19 = .ok (.ifCond .eq 19, 3) := by decide +kernel
theorem dX4_luck_22 : decode cX4_luck 22 = .ok (.iload 4, 2) := by decide +kernel
theorem dX4_luck_24 : decode cX4_luck 24 = .ok (.invokestatic 151, 3) := by decide +kernel
theorem dX4_luck_27 : decode cX4_luck 27 = .ok (.ifCond .eq 11, 3) := by decide +kernel
theorem dX4_luck_30 : decode cX4_luck 30 = .ok (.iload 5, 2) := by decide +kernel
theorem dX4_luck_32 : decode cX4_luck 32 = .ok (.invokestatic 178, 3) := by decide +kernel
theorem dX4_luck_35 : decode cX4_luck 35 = .ok (.ifCond .ne 7, 3) := by decide +kernel
theorem dX4_luck_38 : decode cX4_luck 38 = .ok (.ldc2_w 207, 3) := by decide +kernel
theorem dX4_luck_41 : decode cX4_luck 41 = .ok (.lreturn, 1) := by decide +kernel
theorem dX4_luck_42 : decode cX4_luck 42 = .ok (.aload_n 0, 1) := by decide +kernel
theorem dX4_luck_43 : decode cX4_luck 43 = .ok (.getfield 16, 3) := by decide +kernel
theorem dX4_luck_46 : decode cX4_luck 46 = .ok (.aload_n 0, 1) := by decide +kernel
theorem dX4_luck_47 : decode cX4_luck 47 = .ok (.getfield 10, 3) := by decide +kernel
theorem dX4_luck_50 : decode cX4_luck 50 = .ok (.invokevirtual 71, 3) := by decide +kernel
theorem dX4_luck_53 : decode cX4_luck 53 = .ok (.aload_n 0, 1) := by decide +kernel
theorem dX4_luck_54 : decode cX4_luck 54 = .ok (.getfield 10, 3) := by decide +kernel
theorem dX4_luck_57 : decode cX4_luck 57 = .ok (.iload_n 2, 1) := by decide +kernel
theorem dX4_luck_58 : decode cX4_luck 58 = .ok (.invokevirtual 209, 3) := by decide +kernel
theorem dX4_luck_61 : decode cX4_luck 61 = .ok (.istore 6, 2) := by decide +kernel
theorem dX4_luck_63 : decode cX4_luck 63 = .ok (.lconst 0, 1) := by decide +kernel
theorem dX4_luck_64 : decode cX4_luck 64 = .ok (.lstore 7, 2) := by decide +kernel
theorem dX4_luck_66 : decode cX4_luck 66 = .ok (.iconst 0, 1) := by decide +kernel
theorem dX4_luck_67 : decode cX4_luck 67 = .ok (.istore 9, 2) := by decide +kernel
theorem dX4_luck_69 : decode cX4_luck 69 = .ok (.iload 9, 2) := by decide +kernel
theorem dX4_luck_71 : decode cX4_luck 71 = .ok (.sipush 256, 3) := by decide +kernel
theorem dX4_luck_74 : decode cX4_luck 74 = .ok (.if_icmp .ge 55, 3) := by decide +kernel
theorem dX4_luck_77 : decode cX4_luck 77 = .ok (.aload_n 0, 1) := by decide +kernel
theorem dX4_luck_78 : decode cX4_luck 78 = .ok (.getfield 16, 3) := by decide +kernel
theorem dX4_luck_81 : decode cX4_luck 81 = .ok (.iload 9, 2) := by decide +kernel
theorem dX4_luck_83 : decode cX4_luck 83 = .ok (.putfield 201, 3) := by decide +kernel
theorem dX4_luck_86 : decode cX4_luck 86 = .ok (.iload 9, 2) := by decide +kernel
theorem dX4_luck_88 : decode cX4_luck 88 = .ok (.iload 6, 2) := by decide +kernel
theorem dX4_luck_90 : decode cX4_luck 90 = .ok (.iconst (-1), 1) := by decide +kernel
theorem dX4_luck_91 : decode cX4_luck 91 = .ok (.ixor, 1) := by decide +kernel
theorem dX4_luck_92 : decode cX4_luck 92 = .ok (.iand, 1) := by decide +kernel
theorem dX4_luck_93 : decode cX4_luck 93 = .ok (.ifCond .ne 30, 3) := by decide +kernel
theorem dX4_luck_96 : decode cX4_luck 96 = .ok (.aload_n 0, 1) := by decide +kernel
theorem dX4_luck_97 : decode cX4_luck 97 = .ok (.getfield 16, 3) := by decide +kernel
theorem dX4_luck_100 : decode cX4_luck 100 = .ok (.iload_n 2, 1) := by decide +kernel
theorem dX4_luck_101 : decode cX4_luck 101 = .ok (.iload 4, 2) := by decide +kernel
theorem dX4_luck_103 : decode cX4_luck 103 = .ok (.invokevirtual 122, 3) := by decide +kernel
theorem dX4_luck_106 : decode cX4_luck 106 = .ok (.iload_n 3, 1) := by decide +kernel
theorem dX4_luck_107 : decode cX4_luck 107 = .ok (.if_icmp .ne 16, 3) := by decide +kernel
theorem dX4_luck_110 : decode cX4_luck 110 = .ok (.lload 7, 2) := by decide +kernel
theorem dX4_luck_112 : decode cX4_luck 112 = .ok (.iload_n 1, 1) := by decide +kernel
theorem dX4_luck_113 : decode cX4_luck 113 = .ok (.iload 9, 2) := by decide +kernel
theorem dX4_luck_115 : decode cX4_luck 115 = .ok (.iload 6, 2) := by decide +kernel
theorem dX4_luck_117 : decode cX4_luck 117 = .ok (.invokestatic 212, 3) := by decide +kernel
theorem dX4_luck_120 : decode cX4_luck 120 = .ok (.ladd, 1) := by decide +kernel
theorem dX4_luck_121 : decode cX4_luck 121 = .ok (.lstore 7, 2) := by decide +kernel
theorem dX4_luck_123 : decode cX4_luck 123 = .ok (.iinc 9 1, 3) := by decide +kernel
theorem dX4_luck_126 : decode cX4_luck 126 = .ok (.goto (-57), 3) := by decide +kernel
theorem dX4_luck_129 : decode cX4_luck 129 = .ok (.lload 7, 2) := by decide +kernel
theorem dX4_luck_131 : decode cX4_luck 131 = .ok (.bipush 10, 2) := by decide +kernel
theorem dX4_luck_133 : decode cX4_luck 133 = .ok (.iload 6, 2) := by decide +kernel
theorem dX4_luck_135 : decode cX4_luck 135 = .ok (.invokestatic 216, 3) := by decide +kernel
theorem dX4_luck_138 : decode cX4_luck 138 = .ok (.invokestatic 221, 3) := by decide +kernel
theorem dX4_luck_141 : decode cX4_luck 141 = .ok (.iload 5, 2) := by decide +kernel
theorem dX4_luck_143 : decode cX4_luck 143 = .ok (.invokestatic 225, 3) := by decide +kernel
theorem dX4_luck_146 : decode cX4_luck 146 = .ok (.lreturn, 1) := by decide +kernel
theorem dX4_mean_0 : decode cX4_mean 0 = .ok (.iload_n 1, 1) := by decide +kernel
theorem dX4_mean_1 : decode cX4_mean 1 = .ok (.invokestatic 204, 3) := by decide +kernel
theorem dX4_mean_4 : decode cX4_mean 4 = .ok (.ifCond .eq 20, 3) := by decide +kernel
theorem dX4_mean_7 : decode cX4_mean 7 = .ok (.iload_n 2, 1) := by decide +kernel
theorem dX4_mean_8 : decode cX4_mean 8 = .ok (.iconst 0, 1) := by decide +kernel
theorem dX4_mean_9 : decode cX4_mean 9 = .ok (.bipush 20, 2) := by decide +kernel
theorem dX4_mean_11 : decode cX4_mean 11 = .ok (.invokestatic 46, 3) := by decide +kernel
theorem dX4_mean_14 : decode cX4_mean 14 = .ok (.ifCond .eq 10, 3) := by decide +kernel
theorem dX4_mean_17 : decode cX4_mean 17 = .ok (.iload_n 3, 1) := by decide +kernel
theorem dX4_mean_18 : decode cX4_mean 18 = .ok (.invokestatic 178, 3) := by decide +kernel
theorem dX4_mean_21 : decode cX4_mean 21 = .ok (.ifCond .ne 7, 3) := by decide +kernel
theorem dX4_mean_24 : decode cX4_mean 24 = .ok (.ldc2_w 207, 3) := by decide +kernel
theorem dX4_mean_27 : decode cX4_mean 27 = .ok (.lreturn, 1) := by decide +kernel
theorem dX4_mean_28 : decode cX4_mean 28 = .ok (.lconst 0, 1) := by decide +kernel
theorem dX4_mean_29 : decode cX4_mean 29 = .ok (.lstore 4, 2) := by decide +kernel
theorem dX4_mean_31 : decode cX4_mean 31 = .ok (.iconst 0, 1) := by decide +kernel
theorem dX4_mean_32 : decode cX4_mean 32 = .ok (.istore 6, 2) := by decide +kernel
theorem dX4_mean_34 : decode cX4_mean 34 = .ok (.iload 6, 2) := by decide +kernel
theorem dX4_mean_36 : decode cX4_mean 36 = .ok (.aload_n 0, 1) := by decide +kernel
theorem dX4_mean_37 : decode cX4_mean 37 = .ok (.getfield 10, 3) := by decide +kernel
theorem dX4_mean_40 : decode cX4_mean 40 = .ok (.getfield 83, 3) := by decide +kernel
theorem dX4_mean_43 : decode cX4_mean 43 = .ok (.if_icmp .ge 47, 3) := by decide +kernel
theorem dX4_mean_46 : decode cX4_mean 46 = .ok (.bipush 8, 2) := by decide +kernel
theorem dX4_mean_48 : decode cX4_mean 48 = .ok (.aload_n 0, 1) := by decide +kernel
theorem dX4_mean_49 : decode cX4_mean 49 = .ok (.getfield 10, 3) := by decide +kernel
theorem dX4_mean_52 : decode cX4_mean 52 = .ok (.iload 6, 2) := by decide +kernel
theorem dX4_mean_54 : decode cX4_mean 54 = .ok (.invokevirtual 209, 3) := by decide +kernel
theorem dX4_mean_57 : decode cX4_mean 57 = .ok (.invokestatic 216, 3) := by decide +kernel
theorem dX4_mean_60 : decode cX4_mean 60 = .ok (.isub, 1) := by decide +kernel
theorem dX4_mean_61 : decode cX4_mean 61 = .ok (.istore 7, 2) := by decide +kernel
theorem dX4_mean_63 : decode cX4_mean 63 = .ok (.lload 4, 2) := by decide +kernel
theorem dX4_mean_65 : decode cX4_mean 65 = .ok (.aload_n 0, 1) := by decide +kernel
theorem dX4_mean_66 : decode cX4_mean 66 = .ok (.iload_n 1, 1) := by decide +kernel
theorem dX4_mean_67 : decode cX4_mean 67 = .ok (.iload 6, 2) := by decide +kernel
theorem dX4_mean_69 : decode cX4_mean 69 = .ok (.iload_n 2, 1) := by decide +kernel
theorem dX4_mean_70 : decode cX4_mean 70 = .ok (.invokevirtual 229, 3) := by decide +kernel
theorem dX4_mean_73 : decode cX4_mean 73 = .ok (.bipush 10, 2) := by decide +kernel
theorem dX4_mean_75 : decode cX4_mean 75 = .ok (.iload 7, 2) := by decide +kernel
theorem dX4_mean_77 : decode cX4_mean 77 = .ok (.invokestatic 221, 3) := by decide +kernel
theorem dX4_mean_80 : decode cX4_mean 80 = .ok (.lmul, 1) := by decide +kernel
theorem dX4_mean_81 : decode cX4_mean 81 = .ok (.ladd, 1) := by decide +kernel
theorem dX4_mean_82 : decode cX4_mean 82 = .ok (.lstore 4, 2) := by decide +kernel
theorem dX4_mean_84 : decode cX4_mean 84 = .ok (.iinc 6 1, 3) := by decide +kernel
theorem dX4_mean_87 : decode cX4_mean 87 = .ok (.goto (-53), 3) := by decide +kernel
theorem dX4_mean_90 : decode cX4_mean 90 = .ok (.lload 4, 2) := by decide +kernel
theorem dX4_mean_92 : decode cX4_mean 92 = .ok (.bipush 10, 2) := by decide +kernel
theorem dX4_mean_94 : decode cX4_mean 94 = .ok (.bipush 8, 2) := by decide +kernel
theorem dX4_mean_96 : decode cX4_mean 96 = .ok (.invokestatic 221, 3) := by decide +kernel
theorem dX4_mean_99 : decode cX4_mean 99 = .ok (.iload_n 3, 1) := by decide +kernel
theorem dX4_mean_100 : decode cX4_mean 100 = .ok (.invokestatic 225, 3) := by decide +kernel
theorem dX4_mean_103 : decode cX4_mean 103 = .ok (.lreturn, 1) := by decide +kernel
theorem dX4_see_0 : decode cX4_see 0 = .ok (.iload_n 1, 1) := by decide +kernel
theorem dX4_see_1 : decode cX4_see 1 = .ok (.iconst 0, 1) := by decide +kernel
theorem dX4_see_2 : decode cX4_see 2 = .ok (.bipush 20, 2) := by decide +kernel
theorem dX4_see_4 : decode cX4_see 4 = .ok (.invokestatic 46, 3) := by decide +kernel
theorem dX4_see_7 : decode cX4_see 7 = .ok (.ifCond .eq 21, 3) := by decide +kernel
theorem dX4_see_10 : decode cX4_see 10 = .ok (.aload_n 0, 1) := by decide +kernel
theorem dX4_see_11 : decode cX4_see 11 = .ok (.iload_n 2, 1) := by decide +kernel
theorem dX4_see_12 : decode cX4_see 12 = .ok (.invokevirtual 105, 3) := by decide +kernel
theorem dX4_see_15 : decode cX4_see 15 = .ok (.ifCond .eq 13, 3) := by decide +kernel
theorem dX4_see_18 : decode cX4_see 18 = .ok (.iload_n 3, 1) := by decide +kernel
theorem dX4_see_19 : decode cX4_see 19 = .ok (.iconst 0, 1) := by decide +kernel
theorem dX4_see_20 : decode cX4_see 20 = .ok (.bipush 15, 2) := by decide +kernel
theorem dX4_see_22 : decode cX4_see 22 = .ok (.invokestatic 46, 3) := by decide +kernel
theorem dX4_see_25 : decode cX4_see 25 = .ok (.ifCond .ne 5, 3) := by decide +kernel
theorem dX4_see_28 : decode cX4_see 28 = .ok (.iconst (-1), 1) := by decide +kernel
theorem dX4_see_29 : decode cX4_see 29 = .ok (.ireturn, 1) := by decide +kernel
theorem dX4_see_30 : decode cX4_see 30 = .ok (.aload_n 0, 1) := by decide +kernel
theorem dX4_see_31 : decode cX4_see 31 = .ok (.getfield 35, 3) := by decide +kernel
theorem dX4_see_34 : decode cX4_see 34 = .ok (.iload_n 1, 1) := by decide +kernel
theorem dX4_see_35 : decode cX4_see 35 = .ok (.iload_n 2, 1) := by decide +kernel
theorem dX4_see_36 : decode cX4_see 36 = .ok (.iload_n 3, 1) := by decide +kernel
theorem dX4_see_37 : decode cX4_see 37 = .ok (.invokevirtual 232, 3) := by decide +kernel
theorem dX4_see_40 : decode cX4_see 40 = .ok (.ifCond .eq 13, 3) := by decide +kernel
theorem dX4_see_43 : decode cX4_see 43 = .ok (.aload_n 0, 1) := by decide +kernel
theorem dX4_see_44 : decode cX4_see 44 = .ok (.getfield 35, 3) := by decide +kernel
theorem dX4_see_47 : decode cX4_see 47 = .ok (.getfield 74, 3) := by decide +kernel
theorem dX4_see_50 : decode cX4_see 50 = .ok (.goto 5, 3) := by decide +kernel
theorem dX4_see_53 : decode cX4_see 53 = .ok (.bipush (-3), 2) := by decide +kernel
theorem dX4_see_55 : decode cX4_see 55 = .ok (.ireturn, 1) := by decide +kernel
theorem dX4_forget_0 : decode cX4_forget 0 = .ok (.iload_n 1, 1) := by decide +kernel
theorem dX4_forget_1 : decode cX4_forget 1 = .ok (.iconst 0, 1) := by decide +kernel
theorem dX4_forget_2 : decode cX4_forget 2 = .ok (.aload_n 0, 1) := by decide +kernel
theorem dX4_forget_3 : decode cX4_forget 3 = .ok (.getfield 35, 3) := by decide +kernel
theorem dX4_forget_6 : decode cX4_forget 6 = .ok (.getfield 74, 3) := by decide +kernel
theorem dX4_forget_9 : decode cX4_forget 9 = .ok (.invokestatic 46, 3) := by decide +kernel
theorem dX4_forget_12 : decode cX4_forget 12 = .ok (.ifCond .ne 5, 3) := by decide +kernel
theorem dX4_forget_15 : decode cX4_forget 15 = .ok (.iconst (-1), 1) := by decide +kernel
theorem dX4_forget_16 : decode cX4_forget 16 = .ok (.ireturn, 1) := by decide +kernel
theorem dX4_forget_17 : decode cX4_forget 17 = .ok (.aload_n 0, 1) := by decide +kernel
theorem dX4_forget_18 : decode cX4_forget 18 = .ok (.getfield 35, 3) := by decide +kernel
theorem dX4_forget_21 : decode cX4_forget 21 = .ok (.getfield 74, 3) := by decide +kernel
theorem dX4_forget_24 : decode cX4_forget 24 = .ok (.istore_n 2, 1) := by decide +kernel
theorem dX4_forget_25 : decode cX4_forget 25 = .ok (.aload_n 0, 1) := by decide +kernel
theorem dX4_forget_26 : decode cX4_forget 26 = .ok (.getfield 35, 3) := by decide +kernel
theorem dX4_forget_29 : decode cX4_forget 29 = .ok (.iload_n 1, 1) := by decide +kernel
theorem dX4_forget_30 : decode cX4_forget 30 = .ok (.putfield 74, 3) := by decide +kernel
theorem dX4_forget_33 : decode cX4_forget 33 = .ok (.iload_n 2, 1) := by decide +kernel
theorem dX4_forget_34 : decode cX4_forget 34 = .ok (.ireturn, 1) := by decide +kernel
theorem dX4_kinds_0 : decode cX4_kinds 0 = .ok (.aload_n 0, 1) := by decide +kernel
theorem dX4_kinds_1 : decode cX4_kinds 1 = .ok (.iload_n 1, 1) := by decide +kernel
theorem dX4_kinds_2 : decode cX4_kinds 2 = .ok (.invokevirtual 105, 3) := by decide +kernel
theorem dX4_kinds_5 : decode cX4_kinds 5 = .ok (.ifCond .ne 5, 3) := by decide +kernel
theorem dX4_kinds_8 : decode cX4_kinds 8 = .ok (.iconst (-1), 1) := by decide +kernel
theorem dX4_kinds_9 : decode cX4_kinds 9 = .ok (.ireturn, 1) := by decide +kernel
theorem dX4_kinds_10 : decode cX4_kinds 10 = .ok (.iconst 0, 1) := by decide +kernel
theorem dX4_kinds_11 : decode cX4_kinds 11 = .ok (.istore_n 2, 1) := by decide +kernel
theorem dX4_kinds_12 : decode cX4_kinds 12 = .ok (.iconst 0, 1) := by decide +kernel
theorem dX4_kinds_13 : decode cX4_kinds 13 = .ok (.istore_n 3, 1) := by decide +kernel
theorem dX4_kinds_14 : decode cX4_kinds 14 = .ok (.iload_n 3, 1) := by decide +kernel
theorem dX4_kinds_15 : decode cX4_kinds 15 = .ok (.iconst 4, 1) := by decide +kernel
theorem dX4_kinds_16 : decode cX4_kinds 16 = .ok (.if_icmp .ge 54, 3) := by decide +kernel
theorem dX4_kinds_19 : decode cX4_kinds 19 = .ok (.aload_n 0, 1) := by decide +kernel
theorem dX4_kinds_20 : decode cX4_kinds 20 = .ok (.getfield 16, 3) := by decide +kernel
theorem dX4_kinds_23 : decode cX4_kinds 23 = .ok (.aload_n 0, 1) := by decide +kernel
theorem dX4_kinds_24 : decode cX4_kinds 24 = .ok (.getfield 10, 3) := by decide +kernel
theorem dX4_kinds_27 : decode cX4_kinds 27 = .ok (.invokevirtual 71, 3) := by decide +kernel
theorem dX4_kinds_30 : decode cX4_kinds 30 = .ok (.aload_n 0, 1) := by decide +kernel
theorem dX4_kinds_31 : decode cX4_kinds 31 = .ok (.getfield 16, 3) := by decide +kernel
theorem dX4_kinds_34 : decode cX4_kinds 34 = .ok (.getfield 108, 3) := by decide +kernel
theorem dX4_kinds_37 : decode cX4_kinds 37 = .ok (.iload_n 1, 1) := by decide +kernel
theorem dX4_kinds_38 : decode cX4_kinds 38 = .ok (.iload_n 3, 1) := by decide +kernel
theorem dX4_kinds_39 : decode cX4_kinds 39 = .ok (.iastore, 1) := by decide +kernel
theorem dX4_kinds_40 : decode cX4_kinds 40 = .ok (.iload_n 2, 1) := by decide +kernel
theorem dX4_kinds_41 : decode cX4_kinds 41 = .ok (.aload_n 0, 1) := by decide +kernel
theorem dX4_kinds_42 : decode cX4_kinds 42 = .ok (.getfield 35, 3) := by decide +kernel
theorem dX4_kinds_45 : decode cX4_kinds 45 = .ok (.aload_n 0, 1) := by decide +kernel
theorem dX4_kinds_46 : decode cX4_kinds 46 = .ok (.getfield 16, 3) := by decide +kernel
theorem dX4_kinds_49 : decode cX4_kinds 49 = .ok (.invokevirtual 234, 3) := by decide +kernel
theorem dX4_kinds_52 : decode cX4_kinds 52 = .ok (.ifCond .eq 9, 3) := by decide +kernel
theorem dX4_kinds_55 : decode cX4_kinds 55 = .ok (.iconst 1, 1) := by decide +kernel
theorem dX4_kinds_56 : decode cX4_kinds 56 = .ok (.iload_n 3, 1) := by decide +kernel
theorem dX4_kinds_57 : decode cX4_kinds 57 = .ok (.ishl, 1) := by decide +kernel
theorem dX4_kinds_58 : decode cX4_kinds 58 = .ok (.goto 4, 3) := by decide +kernel
theorem dX4_kinds_61 : decode cX4_kinds 61 = .ok (.iconst 0, 1) := by decide +kernel
theorem dX4_kinds_62 : decode cX4_kinds 62 = .ok (.ior, 1) := by decide +kernel
theorem dX4_kinds_63 : decode cX4_kinds 63 = .ok (.istore_n 2, 1) := by decide +kernel
theorem dX4_kinds_64 : decode cX4_kinds 64 = .ok (.iinc 3 1, 3) := by decide +kernel
theorem dX4_kinds_67 : decode cX4_kinds 67 = .ok (.goto (-53), 3) := by decide +kernel
theorem dX4_kinds_70 : decode cX4_kinds 70 = .ok (.iload_n 2, 1) := by decide +kernel
theorem dX4_kinds_71 : decode cX4_kinds 71 = .ok (.ireturn, 1) := by decide +kernel
theorem dX4_ups_0 : decode cX4_ups 0 = .ok (.aload_n 0, 1) := by decide +kernel
theorem dX4_ups_1 : decode cX4_ups 1 = .ok (.iload_n 1, 1) := by decide +kernel
theorem dX4_ups_2 : decode cX4_ups 2 = .ok (.invokevirtual 105, 3) := by decide +kernel
theorem dX4_ups_5 : decode cX4_ups 5 = .ok (.ifCond .eq 11, 3) := by decide +kernel
theorem dX4_ups_8 : decode cX4_ups 8 = .ok (.aload_n 0, 1) := by decide +kernel
theorem dX4_ups_9 : decode cX4_ups 9 = .ok (.iload_n 1, 1) := by decide +kernel
theorem dX4_ups_10 : decode cX4_ups 10 = .ok (.invokevirtual 238, 3) := by decide +kernel
theorem dX4_ups_13 : decode cX4_ups 13 = .ok (.goto 4, 3) := by decide +kernel
theorem dX4_ups_16 : decode cX4_ups 16 = .ok (.iconst (-1), 1) := by decide +kernel
theorem dX4_ups_17 : decode cX4_ups 17 = .ok (.ireturn, 1) := by decide +kernel
theorem dX4_ask_0 : decode cX4_ask 0 = .ok (.aload_n 0, 1) := by decide +kernel
theorem dX4_ask_1 : decode cX4_ask 1 = .ok (.iload_n 1, 1) := by decide +kernel
theorem dX4_ask_2 : decode cX4_ask 2 = .ok (.invokevirtual 105, 3) := by decide +kernel
theorem dX4_ask_5 : decode cX4_ask 5 = .ok (.ifCond .eq 10, 3) := by decide +kernel
theorem dX4_ask_8 : decode cX4_ask 8 = .ok (.iload_n 2, 1) := by decide +kernel
theorem dX4_ask_9 : decode cX4_ask 9 = .ok (.invokestatic 178, 3) := by decide +kernel
theorem dX4_ask_12 : decode cX4_ask 12 = .ok (.ifCond .ne 5, 3) := by decide +kernel
theorem dX4_ask_15 : decode cX4_ask 15 = .ok (.iconst (-1), 1) := by decide +kernel
theorem dX4_ask_16 : decode cX4_ask 16 = .ok (.ireturn, 1) := by decide +kernel
theorem dX4_ask_17 : decode cX4_ask 17 = .ok (.aload_n 0, 1) := by decide +kernel
theorem dX4_ask_18 : decode cX4_ask 18 = .ok (.iload_n 1, 1) := by decide +kernel
theorem dX4_ask_19 : decode cX4_ask 19 = .ok (.invokevirtual 238, 3) := by decide +kernel
theorem dX4_ask_22 : decode cX4_ask 22 = .ok (.invokestatic 216, 3) := by decide +kernel
theorem dX4_ask_25 : decode cX4_ask 25 = .ok (.iconst 2, 1) := by decide +kernel
theorem dX4_ask_26 : decode cX4_ask 26 = .ok (.if_icmp .ge 6, 3) := by decide +kernel
theorem dX4_ask_29 : decode cX4_ask 29 = .ok (.bipush (-4), 2) := by decide +kernel
theorem dX4_ask_31 : decode cX4_ask 31 = .ok (.ireturn, 1) := by decide +kernel
theorem dX4_ask_32 : decode cX4_ask 32 = .ok (.iload_n 2, 1) := by decide +kernel
theorem dX4_ask_33 : decode cX4_ask 33 = .ok (.ifCond .ne 7, 3) := by decide +kernel
theorem dX4_ask_36 : decode cX4_ask 36 = .ok (.iload_n 1, 1) := by decide +kernel
theorem dX4_ask_37 : decode cX4_ask 37 = .ok (.goto 4, 3) := by decide +kernel
theorem dX4_ask_40 : decode cX4_ask 40 = .ok (.iconst 1, 1) := by decide +kernel
theorem dX4_ask_41 : decode cX4_ask 41 = .ok (.ireturn, 1) := by decide +kernel
theorem dX4_drift_0 : decode cX4_drift 0 = .ok (.iload_n 2, 1) := by decide +kernel
theorem dX4_drift_1 : decode cX4_drift 1 = .ok (.iconst 1, 1) := by decide +kernel
theorem dX4_drift_2 : decode cX4_drift 2 = .ok (.bipush 60, 2) := by decide +kernel
theorem dX4_drift_4 : decode cX4_drift 4 = .ok (.invokestatic 46, 3) := by decide +kernel
theorem dX4_drift_7 : decode cX4_drift 7 = .ok (.ifCond .eq 10, 3) := by decide +kernel
theorem dX4_drift_10 : decode cX4_drift 10 = .ok (.iload_n 3, 1) := by decide +kernel
theorem dX4_drift_11 : decode cX4_drift 11 = .ok (.invokestatic 178, 3) := by decide +kernel
theorem dX4_drift_14 : decode cX4_drift 14 = .ok (.ifCond .ne 5, 3) := by decide +kernel
theorem dX4_drift_17 : decode cX4_drift 17 = .ok (.iconst (-1), 1) := by decide +kernel
theorem dX4_drift_18 : decode cX4_drift 18 = .ok (.ireturn, 1) := by decide +kernel
theorem dX4_drift_19 : decode cX4_drift 19 = .ok (.aload_n 0, 1) := by decide +kernel
theorem dX4_drift_20 : decode cX4_drift 20 = .ok (.getfield 10, 3) := by decide +kernel
theorem dX4_drift_23 : decode cX4_drift 23 = .ok (.getfield 83, 3) := by decide +kernel
theorem dX4_drift_26 : decode cX4_drift 26 = .ok (.ifCond .ne 6, 3) := by decide +kernel
theorem dX4_drift_29 : decode cX4_drift 29 = .ok (.bipush (-2), 2) := by decide +kernel
theorem dX4_drift_31 : decode cX4_drift 31 = .ok (.ireturn, 1) := by decide +kernel
theorem dX4_drift_32 : decode cX4_drift 32 = .ok (.aload_n 0, 1) := by decide +kernel
theorem dX4_drift_33 : decode cX4_drift 33 = .ok (.getfield 16, 3) := by decide +kernel
theorem dX4_drift_36 : decode cX4_drift 36 = .ok (.aload_n 0, 1) := by decide +kernel
theorem dX4_drift_37 : decode cX4_drift 37 = .ok (.getfield 10, 3) := by decide +kernel
theorem dX4_drift_40 : decode cX4_drift 40 = .ok (.invokevirtual 71, 3) := by decide +kernel
theorem dX4_drift_43 : decode cX4_drift 43 = .ok (.iconst 0, 1) := by decide +kernel
theorem dX4_drift_44 : decode cX4_drift 44 = .ok (.istore 4, 2) := by decide +kernel
theorem dX4_drift_46 : decode cX4_drift 46 = .ok (.iload_n 1, 1) := by decide +kernel
theorem dX4_drift_47 : decode cX4_drift 47 = .ok (.istore 5, 2) := by decide +kernel
theorem dX4_drift_49 : decode cX4_drift 49 = .ok (.iconst 0, 1) := by decide +kernel
theorem dX4_drift_50 : decode cX4_drift 50 = .ok (.istore 6, 2) := by decide +kernel
theorem dX4_drift_52 : decode cX4_drift 52 = .ok (.iload 6, 2) := by decide +kernel
theorem dX4_drift_54 : decode cX4_drift 54 = .ok (.iload_n 2, 1) := by decide +kernel
theorem dX4_drift_55 : decode cX4_drift 55 = .ok (.if_icmp .ge 69, 3) := by decide +kernel
theorem dX4_drift_58 : decode cX4_drift 58 = .ok (.iload 5, 2) := by decide +kernel
theorem dX4_drift_60 : decode cX4_drift 60 = .ok (.ldc 241, 2) := by decide +kernel
theorem dX4_drift_62 : decode cX4_drift 62 = .ok (.imul, 1) := by decide +kernel
theorem dX4_drift_63 : decode cX4_drift 63 = .ok (.sipush 12345, 3) := by decide +kernel
theorem dX4_drift_66 : decode cX4_drift 66 = .ok (.iadd, 1) := by decide +kernel
theorem dX4_drift_67 : decode cX4_drift 67 = .ok (.istore 5, 2) := by decide +kernel
theorem dX4_drift_69 : decode cX4_drift 69 = .ok (.iload 5, 2) := by decide +kernel
theorem dX4_drift_71 : decode cX4_drift 71 = .ok (.bipush 16, 2) := by decide +kernel
theorem dX4_drift_73 : decode cX4_drift 73 = .ok (.iushr, 1) := by decide +kernel
theorem dX4_drift_74 : decode cX4_drift 74 = .ok (.sipush 32767, 3) := by decide +kernel
theorem dX4_drift_77 : decode cX4_drift 77 = .ok (.iand, 1) := by decide +kernel
theorem dX4_drift_78 : decode cX4_drift 78 = .ok (.istore 7, 2) := by decide +kernel
theorem dX4_drift_80 : decode cX4_drift 80 = .ok (.aload_n 0, 1) := by decide +kernel
theorem dX4_drift_81 : decode cX4_drift 81 = .ok (.getfield 16, 3) := by decide +kernel
theorem dX4_drift_84 : decode cX4_drift 84 = .ok (.getfield 112, 3) := by decide +kernel
theorem dX4_drift_87 : decode cX4_drift 87 = .ok (.iload 7, 2) := by decide +kernel
theorem dX4_drift_89 : decode cX4_drift 89 = .ok (.aload_n 0, 1) := by decide +kernel
theorem dX4_drift_90 : decode cX4_drift 90 = .ok (.getfield 10, 3) := by decide +kernel
theorem dX4_drift_93 : decode cX4_drift 93 = .ok (.getfield 83, 3) := by decide +kernel
theorem dX4_drift_96 : decode cX4_drift 96 = .ok (.irem, 1) := by decide +kernel
theorem dX4_drift_97 : decode cX4_drift 97 = .ok (.iload 7, 2) := by decide +kernel
theorem dX4_drift_99 : decode cX4_drift 99 = .ok (.bipush 16, 2) := by decide +kernel
theorem dX4_drift_101 : decode cX4_drift 101 = .ok (.idiv, 1) := by decide +kernel
theorem dX4_drift_102 : decode cX4_drift 102 = .ok (.bipush 16, 2) := by decide +kernel
theorem dX4_drift_104 : decode cX4_drift 104 = .ok (.irem, 1) := by decide +kernel
theorem dX4_drift_105 : decode cX4_drift 105 = .ok (.iastore, 1) := by decide +kernel
theorem dX4_drift_106 : decode cX4_drift 106 = .ok (.iload 4, 2) := by decide +kernel
theorem dX4_drift_108 : decode cX4_drift 108 = .ok (.aload_n 0, 1) := by decide +kernel
theorem dX4_drift_109 : decode cX4_drift 109 = .ok (.getfield 16, 3) := by decide +kernel
theorem dX4_drift_112 : decode cX4_drift 112 = .ok (.invokevirtual 175, 3) := by decide +kernel
theorem dX4_drift_115 : decode cX4_drift 115 = .ok (.iadd, 1) := by decide +kernel
theorem dX4_drift_116 : decode cX4_drift 116 = .ok (.istore 4, 2) := by decide +kernel
theorem dX4_drift_118 : decode cX4_drift 118 = .ok (.iinc 6 1, 3) := by decide +kernel
theorem dX4_drift_121 : decode cX4_drift 121 = .ok (.goto (-69), 3) := by decide +kernel
theorem dX4_drift_124 : decode cX4_drift 124 = .ok (.iload_n 3, 1) := by decide +kernel
theorem dX4_drift_125 : decode cX4_drift 125 = .ok (.ifCond .ne 8, 3) := by decide +kernel
theorem dX4_drift_128 : decode cX4_drift 128 = .ok (.iload 4, 2) := by decide +kernel
theorem dX4_drift_130 : decode cX4_drift 130 = .ok (.goto 10, 3) := by decide +kernel
theorem dX4_drift_133 : decode cX4_drift 133 = .ok (.aload_n 0, 1) := by decide +kernel
theorem dX4_drift_134 : decode cX4_drift 134 = .ok (.getfield 16, 3) := by decide +kernel
theorem dX4_drift_137 : decode cX4_drift 137 = .ok (.invokevirtual 98, 3) := by decide +kernel
theorem dX4_drift_140 : decode cX4_drift 140 = .ok (.ireturn, 1) := by decide +kernel
theorem dX4_keep_0 : decode cX4_keep 0 = .ok (.iload_n 1, 1) := by decide +kernel
theorem dX4_keep_1 : decode cX4_keep 1 = .ok (.invokestatic 242, 3) := by decide +kernel
theorem dX4_keep_4 : decode cX4_keep 4 = .ok (.ifCond .ne 5, 3) := by decide +kernel
theorem dX4_keep_7 : decode cX4_keep 7 = .ok (.iconst (-1), 1) := by decide +kernel
theorem dX4_keep_8 : decode cX4_keep 8 = .ok (.ireturn, 1) := by decide +kernel
theorem dX4_keep_9 : decode cX4_keep 9 = .ok (.aload_n 0, 1) := by decide +kernel
theorem dX4_keep_10 : decode cX4_keep 10 = .ok (.getfield 77, 3) := by decide +kernel
theorem dX4_keep_13 : decode cX4_keep 13 = .ok (.iload_n 1, 1) := by decide +kernel
theorem dX4_keep_14 : decode cX4_keep 14 = .ok (.ishr, 1) := by decide +kernel
theorem dX4_keep_15 : decode cX4_keep 15 = .ok (.iconst 1, 1) := by decide +kernel
theorem dX4_keep_16 : decode cX4_keep 16 = .ok (.iand, 1) := by decide +kernel
theorem dX4_keep_17 : decode cX4_keep 17 = .ok (.istore_n 2, 1) := by decide +kernel
theorem dX4_keep_18 : decode cX4_keep 18 = .ok (.aload_n 0, 1) := by decide +kernel
theorem dX4_keep_19 : decode cX4_keep 19 = .ok (.iload_n 1, 1) := by decide +kernel
theorem dX4_keep_20 : decode cX4_keep 20 = .ok (.invokevirtual 245, 3) := by decide +kernel
theorem dX4_keep_23 : decode cX4_keep 23 = .ok (.aload_n 0, 1) := by decide +kernel
theorem dX4_keep_24 : decode cX4_keep 24 = .ok (.getfield 10, 3) := by decide +kernel
theorem dX4_keep_27 : decode cX4_keep 27 = .ok (.invokevirtual 71, 3) := by decide +kernel
theorem dX4_keep_30 : decode cX4_keep 30 = .ok (.aload_n 0, 1) := by decide +kernel
theorem dX4_keep_31 : decode cX4_keep 31 = .ok (.dup, 1) := by decide +kernel
theorem dX4_keep_32 : decode cX4_keep 32 = .ok (.getfield 77, 3) := by decide +kernel
theorem dX4_keep_35 : decode cX4_keep 35 = .ok (.iconst 1, 1) := by decide +kernel
theorem dX4_keep_36 : decode cX4_keep 36 = .ok (.iload_n 1, 1) := by decide +kernel
theorem dX4_keep_37 : decode cX4_keep 37 = .ok (.ishl, 1) := by decide +kernel
theorem dX4_keep_38 : decode cX4_keep 38 = .ok (.ior, 1) := by decide +kernel
theorem dX4_keep_39 : decode cX4_keep 39 = .ok (.putfield 77, 3) := by decide +kernel
theorem dX4_keep_42 : decode cX4_keep 42 = .ok (.iload_n 2, 1) := by decide +kernel
theorem dX4_keep_43 : decode cX4_keep 43 = .ok (.ireturn, 1) := by decide +kernel
theorem dX4_back_0 : decode cX4_back 0 = .ok (.iload_n 1, 1) := by decide +kernel
theorem dX4_back_1 : decode cX4_back 1 = .ok (.invokestatic 242, 3) := by decide +kernel
theorem dX4_back_4 : decode cX4_back 4 = .ok (.ifCond .ne 5, 3) := by decide +kernel
theorem dX4_back_7 : decode cX4_back 7 = .ok (.iconst (-1), 1) := by decide +kernel
theorem dX4_back_8 : decode cX4_back 8 = .ok (.ireturn, 1) := by decide +kernel
theorem dX4_back_9 : decode cX4_back 9 = .ok (.aload_n 0, 1) := by decide +kernel
theorem dX4_back_10 : decode cX4_back 10 = .ok (.getfield 77, 3) := by decide +kernel
theorem dX4_back_13 : decode cX4_back 13 = .ok (.iload_n 1, 1) := by decide +kernel
theorem dX4_back_14 : decode cX4_back 14 = .ok (.ishr, 1) := by decide +kernel
theorem dX4_back_15 : decode cX4_back 15 = .ok (.iconst 1, 1) := by decide +kernel
theorem dX4_back_16 : decode cX4_back 16 = .ok (.iand, 1) := by decide +kernel
theorem dX4_back_17 : decode cX4_back 17 = .ok (.ifCond .ne 6, 3) := by decide +kernel
theorem dX4_back_20 : decode cX4_back 20 = .ok (.bipush (-2), 2) := by decide +kernel
theorem dX4_back_22 : decode cX4_back 22 = .ok (.ireturn, 1) := by decide +kernel
theorem dX4_back_23 : decode cX4_back 23 = .ok (.aload_n 0, 1) := by decide +kernel
theorem dX4_back_24 : decode cX4_back 24 = .ok (.getfield 10, 3) := by decide +kernel
theorem dX4_back_27 : decode cX4_back 27 = .ok (.aload_n 0, 1) := by decide +kernel
theorem dX4_back_28 : decode cX4_back 28 = .ok (.iload_n 1, 1) := by decide +kernel
theorem dX4_back_29 : decode cX4_back 29 = .ok (.invokevirtual 245, 3) := by decide +kernel
theorem dX4_back_32 : decode cX4_back 32 = .ok (.invokevirtual 71, 3) := by decide +kernel
theorem dX4_back_35 : decode cX4_back 35 = .ok (.aload_n 0, 1) := by decide +kernel
theorem dX4_back_36 : decode cX4_back 36 = .ok (.getfield 10, 3) := by decide +kernel
theorem dX4_back_39 : decode cX4_back 39 = .ok (.getfield 89, 3) := by decide +kernel
theorem dX4_back_42 : decode cX4_back 42 = .ok (.ireturn, 1) := by decide +kernel
theorem dX4_sheet_0 : decode cX4_sheet 0 = .ok (.aload_n 0, 1) := by decide +kernel
theorem dX4_sheet_1 : decode cX4_sheet 1 = .ok (.getfield 42, 3) := by decide +kernel
theorem dX4_sheet_4 : decode cX4_sheet 4 = .ok (.iload_n 1, 1) := by decide +kernel
theorem dX4_sheet_5 : decode cX4_sheet 5 = .ok (.invokevirtual 249, 3) := by decide +kernel
theorem dX4_sheet_8 : decode cX4_sheet 8 = .ok (.ifCond .eq 20, 3) := by decide +kernel
theorem dX4_sheet_11 : decode cX4_sheet 11 = .ok (.aload_n 0, 1) := by decide +kernel
theorem dX4_sheet_12 : decode cX4_sheet 12 = .ok (.getfield 42, 3) := by decide +kernel
theorem dX4_sheet_15 : decode cX4_sheet 15 = .ok (.iload_n 2, 1) := by decide +kernel
theorem dX4_sheet_16 : decode cX4_sheet 16 = .ok (.invokevirtual 252, 3) := by decide +kernel
theorem dX4_sheet_19 : decode cX4_sheet 19 = .ok (.ifCond .eq 9, 3) := by decide +kernel
theorem dX4_sheet_22 : decode cX4_sheet 22 = .ok (.iload_n 3, 1) := by decide +kernel
theorem dX4_sheet_23 : decode cX4_sheet 23 = .ok (.bipush 40, 2) := by decide +kernel
theorem dX4_sheet_25 : decode cX4_sheet 25 = .ok (.if_icmp .le 5, 3) := by decide +kernel
theorem dX4_sheet_28 : decode cX4_sheet 28 = .ok (.iconst (-1), 1) := by decide +kernel
theorem dX4_sheet_29 : decode cX4_sheet 29 = .ok (.ireturn, 1) := by decide +kernel
theorem dX4_sheet_30 : decode cX4_sheet 30 = .ok (.iload_n 3, 1) := by decide +kernel
theorem dX4_sheet_31 : decode cX4_sheet 31 = .ok (.ifCond .ge 6, 3) := by decide +kernel
theorem dX4_sheet_34 : decode cX4_sheet 34 = .ok (.bipush (-14), 2) := by decide +kernel
theorem dX4_sheet_36 : decode cX4_sheet 36 = .ok (.ireturn, 1) := by decide +kernel
theorem dX4_sheet_37 : decode cX4_sheet 37 = .ok (.aload_n 0, 1) := by decide +kernel
theorem dX4_sheet_38 : decode cX4_sheet 38 = .ok (.getfield 42, 3) := by decide +kernel
theorem dX4_sheet_41 : decode cX4_sheet 41 = .ok (.iload_n 1, 1) := by decide +kernel
theorem dX4_sheet_42 : decode cX4_sheet 42 = .ok (.iload_n 2, 1) := by decide +kernel
theorem dX4_sheet_43 : decode cX4_sheet 43 = .ok (.iload_n 3, 1) := by decide +kernel
theorem dX4_sheet_44 : decode cX4_sheet 44 = .ok (.invokevirtual 255, 3) := by decide +kernel
theorem dX4_sheet_47 : decode cX4_sheet 47 = .ok (.iconst 1, 1) := by decide +kernel
theorem dX4_sheet_48 : decode cX4_sheet 48 = .ok (.ireturn, 1) := by decide +kernel
theorem dX4_lay_0 : decode cX4_lay 0 = .ok (.aload_n 0, 1) := by decide +kernel
theorem dX4_lay_1 : decode cX4_lay 1 = .ok (.getfield 42, 3) := by decide +kernel
theorem dX4_lay_4 : decode cX4_lay 4 = .ok (.iload_n 1, 1) := by decide +kernel
theorem dX4_lay_5 : decode cX4_lay 5 = .ok (.invokevirtual 249, 3) := by decide +kernel
theorem dX4_lay_8 : decode cX4_lay 8 = .ok (.ifCond .ne 5, 3) := by decide +kernel
theorem dX4_lay_11 : decode cX4_lay 11 = .ok (.iconst (-1), 1) := by decide +kernel
theorem dX4_lay_12 : decode cX4_lay 12 = .ok (.ireturn, 1) := by decide +kernel
theorem dX4_lay_13 : decode cX4_lay 13 = .ok (.aload_n 0, 1) := by decide +kernel
theorem dX4_lay_14 : decode cX4_lay 14 = .ok (.getfield 42, 3) := by decide +kernel
theorem dX4_lay_17 : decode cX4_lay 17 = .ok (.iload_n 1, 1) := by decide +kernel
theorem dX4_lay_18 : decode cX4_lay 18 = .ok (.aload_n 0, 1) := by decide +kernel
theorem dX4_lay_19 : decode cX4_lay 19 = .ok (.getfield 42, 3) := by decide +kernel
theorem dX4_lay_22 : decode cX4_lay 22 = .ok (.getfield 259, 3) := by decide +kernel
theorem dX4_lay_25 : decode cX4_lay 25 = .ok (.iload_n 1, 1) := by decide +kernel
theorem dX4_lay_26 : decode cX4_lay 26 = .ok (.iaload, 1) := by decide +kernel
theorem dX4_lay_27 : decode cX4_lay 27 = .ok (.iload_n 2, 1) := by decide +kernel
theorem dX4_lay_28 : decode cX4_lay 28 = .ok (.iconst 1, 1) := by decide +kernel
theorem dX4_lay_29 : decode cX4_lay 29 = .ok (.invokevirtual 262, 3) := by decide +kernel
theorem dX4_lay_32 : decode cX4_lay 32 = .ok (.istore 4, 2) := by decide +kernel
theorem dX4_lay_34 : decode cX4_lay 34 = .ok (.iload 4, 2) := by decide +kernel
theorem dX4_lay_36 : decode cX4_lay 36 = .ok (.ifCond .eq 9, 3) := by decide +kernel
theorem dX4_lay_39 : decode cX4_lay 39 = .ok (.bipush (-10), 2) := by decide +kernel
theorem dX4_lay_41 : decode cX4_lay 41 = .ok (.iload 4, 2) := by decide +kernel
theorem dX4_lay_43 : decode cX4_lay 43 = .ok (.isub, 1) := by decide +kernel
theorem dX4_lay_44 : decode cX4_lay 44 = .ok (.ireturn, 1) := by decide +kernel
theorem dX4_lay_45 : decode cX4_lay 45 = .ok (.aload_n 0, 1) := by decide +kernel
theorem dX4_lay_46 : decode cX4_lay 46 = .ok (.getfield 42, 3) := by decide +kernel
theorem dX4_lay_49 : decode cX4_lay 49 = .ok (.iload_n 1, 1) := by decide +kernel
theorem dX4_lay_50 : decode cX4_lay 50 = .ok (.iload_n 2, 1) := by decide +kernel
theorem dX4_lay_51 : decode cX4_lay 51 = .ok (.iload_n 3, 1) := by decide +kernel
theorem dX4_lay_52 : decode cX4_lay 52 = .ok (.invokevirtual 266, 3) := by decide +kernel
theorem dX4_lay_55 : decode cX4_lay 55 = .ok (.iconst 1, 1) := by decide +kernel
theorem dX4_lay_56 : decode cX4_lay 56 = .ok (.ireturn, 1) := by decide +kernel
theorem dX4_read_0 : decode cX4_read 0 = .ok (.aload_n 0, 1) := by decide +kernel
theorem dX4_read_1 : decode cX4_read 1 = .ok (.getfield 42, 3) := by decide +kernel
theorem dX4_read_4 : decode cX4_read 4 = .ok (.iload_n 1, 1) := by decide +kernel
theorem dX4_read_5 : decode cX4_read 5 = .ok (.invokevirtual 249, 3) := by decide +kernel
theorem dX4_read_8 : decode cX4_read 8 = .ok (.ifCond .eq 25, 3) := by decide +kernel
theorem dX4_read_11 : decode cX4_read 11 = .ok (.aload_n 0, 1) := by decide +kernel
theorem dX4_read_12 : decode cX4_read 12 = .ok (.getfield 42, 3) := by decide +kernel
theorem dX4_read_15 : decode cX4_read 15 = .ok (.iload_n 2, 1) := by decide +kernel
theorem dX4_read_16 : decode cX4_read 16 = .ok (.invokevirtual 252, 3) := by decide +kernel
theorem dX4_read_19 : decode cX4_read 19 = .ok (.ifCond .eq 14, 3) := by decide +kernel
theorem dX4_read_22 : decode cX4_read 22 = .ok (.iload 4, 2) := by decide +kernel
theorem dX4_read_24 : decode cX4_read 24 = .ok (.iconst 0, 1) := by decide +kernel
theorem dX4_read_25 : decode cX4_read 25 = .ok (.bipush 10, 2) := by decide +kernel
theorem dX4_read_27 : decode cX4_read 27 = .ok (.invokestatic 46, 3) := by decide +kernel
theorem dX4_read_30 : decode cX4_read 30 = .ok (.ifCond .ne 5, 3) := by decide +kernel
theorem dX4_read_33 : decode cX4_read 33 = .ok (.iconst (-1), 1) := by decide +kernel
theorem dX4_read_34 : decode cX4_read 34 = .ok (.ireturn, 1) := by decide +kernel
theorem dX4_read_35 : decode cX4_read 35 = .ok (.aload_n 0, 1) := by decide +kernel
theorem dX4_read_36 : decode cX4_read 36 = .ok (.getfield 10, 3) := by decide +kernel
theorem dX4_read_39 : decode cX4_read 39 = .ok (.getfield 86, 3) := by decide +kernel
theorem dX4_read_42 : decode cX4_read 42 = .ok (.istore 5, 2) := by decide +kernel
theorem dX4_read_44 : decode cX4_read 44 = .ok (.iconst 0, 1) := by decide +kernel
theorem dX4_read_45 : decode cX4_read 45 = .ok (.istore 6, 2) := by decide +kernel
theorem dX4_read_47 : decode cX4_read 47 = .ok (.iload 6, 2) := by decide +kernel
theorem dX4_read_49 : decode cX4_read 49 = .ok (.iload 4, 2) := by decide +kernel
theorem dX4_read_51 : decode cX4_read 51 = .ok (.if_icmp .ge 70, 3) := by decide +kernel
theorem dX4_read_54 : decode cX4_read 54 = .ok (.iload_n 3, 1) := by decide +kernel
theorem dX4_read_55 : decode cX4_read 55 = .ok (.iconst 4, 1) := by decide +kernel
theorem dX4_read_56 : decode cX4_read 56 = .ok (.iload 6, 2) := by decide +kernel
theorem dX4_read_58 : decode cX4_read 58 = .ok (.imul, 1) := by decide +kernel
theorem dX4_read_59 : decode cX4_read 59 = .ok (.iadd, 1) := by decide +kernel
theorem dX4_read_60 : decode cX4_read 60 = .ok (.istore 7, 2) := by decide +kernel
theorem dX4_read_62 : decode cX4_read 62 = .ok (.aload_n 0, 1) := by decide +kernel
theorem dX4_read_63 : decode cX4_read 63 = .ok (.getfield 42, 3) := by decide +kernel
theorem dX4_read_66 : decode cX4_read 66 = .ok (.iload_n 1, 1) := by decide +kernel
theorem dX4_read_67 : decode cX4_read 67 = .ok (.iload_n 2, 1) := by decide +kernel
theorem dX4_read_68 : decode cX4_read 68 = .ok (.iload 7, 2) := by decide +kernel
theorem dX4_read_70 : decode cX4_read 70 = .ok (.iconst 4, 1) := by decide +kernel
theorem dX4_read_71 : decode cX4_read 71 = .ok (.invokevirtual 262, 3) := by decide +kernel
theorem dX4_read_74 : decode cX4_read 74 = .ok (.istore 8, 2) := by decide +kernel
theorem dX4_read_76 : decode cX4_read 76 = .ok (.iload 8, 2) := by decide +kernel
theorem dX4_read_78 : decode cX4_read 78 = .ok (.ifCond .eq 12, 3) := by decide +kernel
theorem dX4_read_81 : decode cX4_read 81 = .ok (.aload_n 0, 1) := by decide +kernel
theorem dX4_read_82 : decode cX4_read 82 = .ok (.iload 8, 2) := by decide +kernel
theorem dX4_read_84 : decode cX4_read 84 = .ok (.putfield 269, 3) := by decide +kernel
theorem dX4_read_87 : decode cX4_read 87 = .ok (.iload 6, 2) := by decide +kernel
theorem dX4_read_89 : decode cX4_read 89 = .ok (.ireturn, 1) := by decide +kernel
theorem dX4_read_90 : decode cX4_read 90 = .ok (.aload_n 0, 1) := by decide +kernel
theorem dX4_read_91 : decode cX4_read 91 = .ok (.iload_n 1, 1) := by decide +kernel
theorem dX4_read_92 : decode cX4_read 92 = .ok (.iload 7, 2) := by decide +kernel
theorem dX4_read_94 : decode cX4_read 94 = .ok (.invokevirtual 272, 3) := by decide +kernel
theorem dX4_read_97 : decode cX4_read 97 = .ok (.ifCond .ge 18, 3) := by decide +kernel
theorem dX4_read_100 : decode cX4_read 100 = .ok (.aload_n 0, 1) := by decide +kernel
theorem dX4_read_101 : decode cX4_read 101 = .ok (.getfield 10, 3) := by decide +kernel
theorem dX4_read_104 : decode cX4_read 104 = .ok (.iload 5, 2) := by decide +kernel
theorem dX4_read_106 : decode cX4_read 106 = .ok (.putfield 86, 3) := by decide +kernel
theorem dX4_read_109 : decode cX4_read 109 = .ok (.bipush (-20), 2) := by decide +kernel
theorem dX4_read_111 : decode cX4_read 111 = .ok (.iload 6, 2) := by decide +kernel
theorem dX4_read_113 : decode cX4_read 113 = .ok (.isub, 1) := by decide +kernel
theorem dX4_read_114 : decode cX4_read 114 = .ok (.ireturn, 1) := by decide +kernel
theorem dX4_read_115 : decode cX4_read 115 = .ok (.iinc 6 1, 3) := by decide +kernel
theorem dX4_read_118 : decode cX4_read 118 = .ok (.goto (-71), 3) := by decide +kernel
theorem dX4_read_121 : decode cX4_read 121 = .ok (.aload_n 0, 1) := by decide +kernel
theorem dX4_read_122 : decode cX4_read 122 = .ok (.iconst 0, 1) := by decide +kernel
theorem dX4_read_123 : decode cX4_read 123 = .ok (.putfield 269, 3) := by decide +kernel
theorem dX4_read_126 : decode cX4_read 126 = .ok (.iload 4, 2) := by decide +kernel
theorem dX4_read_128 : decode cX4_read 128 = .ok (.ireturn, 1) := by decide +kernel
theorem dX4_torn_0 : decode cX4_torn 0 = .ok (.aload_n 0, 1) := by decide +kernel
theorem dX4_torn_1 : decode cX4_torn 1 = .ok (.getfield 269, 3) := by decide +kernel
theorem dX4_torn_4 : decode cX4_torn 4 = .ok (.ireturn, 1) := by decide +kernel
theorem dX4_count_0 : decode cX4_count 0 = .ok (.iload_n 1, 1) := by decide +kernel
theorem dX4_count_1 : decode cX4_count 1 = .ok (.tableswitch 120 0 5 #[39, 47, 55, 63, 90, 108], 39) := by decide +kernel
theorem dX4_count_40 : decode cX4_count 40 = .ok (.aload_n 0, 1) := by decide +kernel
theorem dX4_count_41 : decode cX4_count 41 = .ok (.getfield 35, 3) := by decide +kernel
theorem dX4_count_44 : decode cX4_count 44 = .ok (.getfield 74, 3) := by decide +kernel
theorem dX4_count_47 : decode cX4_count 47 = .ok (.ireturn, 1) := by decide +kernel
theorem dX4_count_48 : decode cX4_count 48 = .ok (.aload_n 0, 1) := by decide +kernel
theorem dX4_count_49 : decode cX4_count 49 = .ok (.getfield 77, 3) := by decide +kernel
theorem dX4_count_52 : decode cX4_count 52 = .ok (.invokestatic 216, 3) := by decide +kernel
theorem dX4_count_55 : decode cX4_count 55 = .ok (.ireturn, 1) := by decide +kernel
theorem dX4_count_56 : decode cX4_count 56 = .ok (.aload_n 0, 1) := by decide +kernel
theorem dX4_count_57 : decode cX4_count 57 = .ok (.getfield 28, 3) := by decide +kernel
theorem dX4_count_60 : decode cX4_count 60 = .ok (.getfield 54, 3) := by decide +kernel
theorem dX4_count_63 : decode cX4_count 63 = .ok (.ireturn, 1) := by decide +kernel
theorem dX4_count_64 : decode cX4_count 64 = .ok (.aload_n 0, 1) := by decide +kernel
theorem dX4_count_65 : decode cX4_count 65 = .ok (.getfield 42, 3) := by decide +kernel
theorem dX4_count_68 : decode cX4_count 68 = .ok (.getfield 275, 3) := by decide +kernel
theorem dX4_count_71 : decode cX4_count 71 = .ok (.iconst 0, 1) := by decide +kernel
theorem dX4_count_72 : decode cX4_count 72 = .ok (.iaload, 1) := by decide +kernel
theorem dX4_count_73 : decode cX4_count 73 = .ok (.ifCond .ge 8, 3) := by decide +kernel
theorem dX4_count_76 : decode cX4_count 76 = .ok (.bipush (-4), 2) := by decide +kernel
theorem dX4_count_78 : decode cX4_count 78 = .ok (.goto 12, 3) := by decide +kernel
theorem dX4_count_81 : decode cX4_count 81 = .ok (.aload_n 0, 1) := by decide +kernel
theorem dX4_count_82 : decode cX4_count 82 = .ok (.getfield 42, 3) := by decide +kernel
theorem dX4_count_85 : decode cX4_count 85 = .ok (.getfield 275, 3) := by decide +kernel
theorem dX4_count_88 : decode cX4_count 88 = .ok (.iconst 0, 1) := by decide +kernel
theorem dX4_count_89 : decode cX4_count 89 = .ok (.iaload, 1) := by decide +kernel
theorem dX4_count_90 : decode cX4_count 90 = .ok (.ireturn, 1) := by decide +kernel
theorem dX4_count_91 : decode cX4_count 91 = .ok (.aload_n 0, 1) := by decide +kernel
theorem dX4_count_92 : decode cX4_count 92 = .ok (.getfield 10, 3) := by decide +kernel
theorem dX4_count_95 : decode cX4_count 95 = .ok (.getfield 115, 3) := by decide +kernel
theorem dX4_count_98 : decode cX4_count 98 = .ok (.aload_n 0, 1) := by decide +kernel
theorem dX4_count_99 : decode cX4_count 99 = .ok (.getfield 10, 3) := by decide +kernel
theorem dX4_count_102 : decode cX4_count 102 = .ok (.getfield 83, 3) := by decide +kernel
theorem dX4_count_105 : decode cX4_count 105 = .ok (.invokestatic 278, 3) := by decide +kernel
theorem dX4_count_108 : decode cX4_count 108 = .ok (.ireturn, 1) := by decide +kernel
theorem dX4_count_109 : decode cX4_count 109 = .ok (.aload_n 0, 1) := by decide +kernel
theorem dX4_count_110 : decode cX4_count 110 = .ok (.getfield 10, 3) := by decide +kernel
theorem dX4_count_113 : decode cX4_count 113 = .ok (.getfield 145, 3) := by decide +kernel
theorem dX4_count_116 : decode cX4_count 116 = .ok (.iconst 4, 1) := by decide +kernel
theorem dX4_count_117 : decode cX4_count 117 = .ok (.invokestatic 278, 3) := by decide +kernel
theorem dX4_count_120 : decode cX4_count 120 = .ok (.ireturn, 1) := by decide +kernel
theorem dX4_count_121 : decode cX4_count 121 = .ok (.iconst (-1), 1) := by decide +kernel
theorem dX4_count_122 : decode cX4_count 122 = .ok (.ireturn, 1) := by decide +kernel
theorem dX4_within_0 : decode cX4_within 0 = .ok (.iload_n 0, 1) := by decide +kernel
theorem dX4_within_1 : decode cX4_within 1 = .ok (.iload_n 1, 1) := by decide +kernel
theorem dX4_within_2 : decode cX4_within 2 = .ok (.if_icmp .lt 12, 3) := by decide +kernel
theorem dX4_within_5 : decode cX4_within 5 = .ok (.iload_n 0, 1) := by decide +kernel
theorem dX4_within_6 : decode cX4_within 6 = .ok (.iload_n 2, 1) := by decide +kernel
theorem dX4_within_7 : decode cX4_within 7 = .ok (.if_icmp .gt 7, 3) := by decide +kernel
theorem dX4_within_10 : decode cX4_within 10 = .ok (.iconst 1, 1) := by decide +kernel
theorem dX4_within_11 : decode cX4_within 11 = .ok (.goto 4, 3) := by decide +kernel
theorem dX4_within_14 : decode cX4_within 14 = .ok (.iconst 0, 1) := by decide +kernel
theorem dX4_within_15 : decode cX4_within 15 = .ok (.ireturn, 1) := by decide +kernel
theorem dX4_isReporter_0 : decode cX4_isReporter 0 = .ok (.iload_n 0, 1) := by decide +kernel
theorem dX4_isReporter_1 : decode cX4_isReporter 1 = .ok (.iconst 0, 1) := by decide +kernel
theorem dX4_isReporter_2 : decode cX4_isReporter 2 = .ok (.iconst 3, 1) := by decide +kernel
theorem dX4_isReporter_3 : decode cX4_isReporter 3 = .ok (.invokestatic 46, 3) := by decide +kernel
theorem dX4_isReporter_6 : decode cX4_isReporter 6 = .ok (.ireturn, 1) := by decide +kernel
theorem dX4_isEnd_0 : decode cX4_isEnd 0 = .ok (.iload_n 0, 1) := by decide +kernel
theorem dX4_isEnd_1 : decode cX4_isEnd 1 = .ok (.iconst 0, 1) := by decide +kernel
theorem dX4_isEnd_2 : decode cX4_isEnd 2 = .ok (.iconst 3, 1) := by decide +kernel
theorem dX4_isEnd_3 : decode cX4_isEnd 3 = .ok (.invokestatic 46, 3) := by decide +kernel
theorem dX4_isEnd_6 : decode cX4_isEnd 6 = .ok (.ireturn, 1) := by decide +kernel
theorem dX4_isDay_0 : decode cX4_isDay 0 = .ok (.iload_n 0, 1) := by decide +kernel
theorem dX4_isDay_1 : decode cX4_isDay 1 = .ok (.iconst 0, 1) := by decide +kernel
theorem dX4_isDay_2 : decode cX4_isDay 2 = .ok (.bipush 99, 2) := by decide +kernel
theorem dX4_isDay_4 : decode cX4_isDay 4 = .ok (.invokestatic 46, 3) := by decide +kernel
theorem dX4_isDay_7 : decode cX4_isDay 7 = .ok (.ireturn, 1) := by decide +kernel
theorem dX4_isRunAhead_0 : decode cX4_isRunAhead 0 = .ok (.iload_n 0, 1) := by decide +kernel
theorem dX4_isRunAhead_1 : decode cX4_isRunAhead 1 = .ok (.iconst 0, 1) := by decide +kernel
theorem dX4_isRunAhead_2 : decode cX4_isRunAhead 2 = .ok (.bipush 60, 2) := by decide +kernel
theorem dX4_isRunAhead_4 : decode cX4_isRunAhead 4 = .ok (.invokestatic 46, 3) := by decide +kernel
theorem dX4_isRunAhead_7 : decode cX4_isRunAhead 7 = .ok (.ireturn, 1) := by decide +kernel
theorem dX4_isChoice_0 : decode cX4_isChoice 0 = .ok (.iload_n 0, 1) := by decide +kernel
theorem dX4_isChoice_1 : decode cX4_isChoice 1 = .ok (.iconst 0, 1) := by decide +kernel
theorem dX4_isChoice_2 : decode cX4_isChoice 2 = .ok (.iconst 1, 1) := by decide +kernel
theorem dX4_isChoice_3 : decode cX4_isChoice 3 = .ok (.invokestatic 46, 3) := by decide +kernel
theorem dX4_isChoice_6 : decode cX4_isChoice 6 = .ok (.ireturn, 1) := by decide +kernel
theorem dX4_isOdds_0 : decode cX4_isOdds 0 = .ok (.iload_n 0, 1) := by decide +kernel
theorem dX4_isOdds_1 : decode cX4_isOdds 1 = .ok (.iconst 0, 1) := by decide +kernel
theorem dX4_isOdds_2 : decode cX4_isOdds 2 = .ok (.bipush 10, 2) := by decide +kernel
theorem dX4_isOdds_4 : decode cX4_isOdds 4 = .ok (.invokestatic 46, 3) := by decide +kernel
theorem dX4_isOdds_7 : decode cX4_isOdds 7 = .ok (.ireturn, 1) := by decide +kernel
theorem dX4_isImage_0 : decode cX4_isImage 0 = .ok (.iload_n 0, 1) := by decide +kernel
theorem dX4_isImage_1 : decode cX4_isImage 1 = .ok (.iconst 0, 1) := by decide +kernel
theorem dX4_isImage_2 : decode cX4_isImage 2 = .ok (.iconst 1, 1) := by decide +kernel
theorem dX4_isImage_3 : decode cX4_isImage 3 = .ok (.invokestatic 46, 3) := by decide +kernel
theorem dX4_isImage_6 : decode cX4_isImage 6 = .ok (.ireturn, 1) := by decide +kernel
theorem dX4_isRider_0 : decode cX4_isRider 0 = .ok (.iload_n 1, 1) := by decide +kernel
theorem dX4_isRider_1 : decode cX4_isRider 1 = .ok (.iconst 0, 1) := by decide +kernel
theorem dX4_isRider_2 : decode cX4_isRider 2 = .ok (.aload_n 0, 1) := by decide +kernel
theorem dX4_isRider_3 : decode cX4_isRider 3 = .ok (.getfield 10, 3) := by decide +kernel
theorem dX4_isRider_6 : decode cX4_isRider 6 = .ok (.getfield 83, 3) := by decide +kernel
theorem dX4_isRider_9 : decode cX4_isRider 9 = .ok (.iconst 1, 1) := by decide +kernel
theorem dX4_isRider_10 : decode cX4_isRider 10 = .ok (.isub, 1) := by decide +kernel
theorem dX4_isRider_11 : decode cX4_isRider 11 = .ok (.invokestatic 46, 3) := by decide +kernel
theorem dX4_isRider_14 : decode cX4_isRider 14 = .ok (.ireturn, 1) := by decide +kernel
theorem dX4_exchange_0 : decode cX4_exchange 0 = .ok (.aload_n 0, 1) := by decide +kernel
theorem dX4_exchange_1 : decode cX4_exchange 1 = .ok (.iload_n 1, 1) := by decide +kernel
theorem dX4_exchange_2 : decode cX4_exchange 2 = .ok (.iaload, 1) := by decide +kernel
theorem dX4_exchange_3 : decode cX4_exchange 3 = .ok (.istore_n 3, 1) := by decide +kernel
theorem dX4_exchange_4 : decode cX4_exchange 4 = .ok (.aload_n 0, 1) := by decide +kernel
theorem dX4_exchange_5 : decode cX4_exchange 5 = .ok (.iload_n 1, 1) := by decide +kernel
theorem dX4_exchange_6 : decode cX4_exchange 6 = .ok (.iload_n 2, 1) := by decide +kernel
theorem dX4_exchange_7 : decode cX4_exchange 7 = .ok (.iastore, 1) := by decide +kernel
theorem dX4_exchange_8 : decode cX4_exchange 8 = .ok (.iload_n 3, 1) := by decide +kernel
theorem dX4_exchange_9 : decode cX4_exchange 9 = .ok (.ireturn, 1) := by decide +kernel
theorem dX4_sumOfFirst_0 : decode cX4_sumOfFirst 0 = .ok (.iconst 0, 1) := by decide +kernel
theorem dX4_sumOfFirst_1 : decode cX4_sumOfFirst 1 = .ok (.istore_n 2, 1) := by decide +kernel
theorem dX4_sumOfFirst_2 : decode cX4_sumOfFirst 2 = .ok (.iconst 0, 1) := by decide +kernel
theorem dX4_sumOfFirst_3 : decode cX4_sumOfFirst 3 = .ok (.istore_n 3, 1) := by decide +kernel
theorem dX4_sumOfFirst_4 : decode cX4_sumOfFirst 4 = .ok (.iload_n 3, 1) := by decide +kernel
theorem dX4_sumOfFirst_5 : decode cX4_sumOfFirst 5 = .ok (.iload_n 1, 1) := by decide +kernel
theorem dX4_sumOfFirst_6 : decode cX4_sumOfFirst 6 = .ok (.if_icmp .ge 21, 3) := by decide +kernel
theorem dX4_sumOfFirst_9 : decode cX4_sumOfFirst 9 = .ok (.iload_n 3, 1) := by decide +kernel
theorem dX4_sumOfFirst_10 : decode cX4_sumOfFirst 10 = .ok (.aload_n 0, 1) := by decide +kernel
theorem dX4_sumOfFirst_11 : decode cX4_sumOfFirst 11 = .ok (.arraylength, 1) := by decide +kernel
theorem dX4_sumOfFirst_12 : decode cX4_sumOfFirst 12 = .ok (.if_icmp .ge 15, 3) := by decide +kernel
theorem dX4_sumOfFirst_15 : decode cX4_sumOfFirst 15 = .ok (.iload_n 2, 1) := by decide +kernel
theorem dX4_sumOfFirst_16 : decode cX4_sumOfFirst 16 = .ok (.aload_n 0, 1) := by decide +kernel
theorem dX4_sumOfFirst_17 : decode cX4_sumOfFirst 17 = .ok (.iload_n 3, 1) := by decide +kernel
theorem dX4_sumOfFirst_18 : decode cX4_sumOfFirst 18 = .ok (.iaload, 1) := by decide +kernel
theorem dX4_sumOfFirst_19 : decode cX4_sumOfFirst 19 = .ok (.iadd, 1) := by decide +kernel
theorem dX4_sumOfFirst_20 : decode cX4_sumOfFirst 20 = .ok (.istore_n 2, 1) := by decide +kernel
theorem dX4_sumOfFirst_21 : decode cX4_sumOfFirst 21 = .ok (.iinc 3 1, 3) := by decide +kernel
theorem dX4_sumOfFirst_24 : decode cX4_sumOfFirst 24 = .ok (.goto (-20), 3) := by decide +kernel
theorem dX4_sumOfFirst_27 : decode cX4_sumOfFirst 27 = .ok (.iload_n 2, 1) := by decide +kernel
theorem dX4_sumOfFirst_28 : decode cX4_sumOfFirst 28 = .ok (.ireturn, 1) := by decide +kernel
theorem dX4_legsDown_0 : decode cX4_legsDown 0 = .ok (.iconst 4, 1) := by decide +kernel
theorem dX4_legsDown_1 : decode cX4_legsDown 1 = .ok (.iload_n 0, 1) := by decide +kernel
theorem dX4_legsDown_2 : decode cX4_legsDown 2 = .ok (.invokestatic 216, 3) := by decide +kernel
theorem dX4_legsDown_5 : decode cX4_legsDown 5 = .ok (.isub, 1) := by decide +kernel
theorem dX4_legsDown_6 : decode cX4_legsDown 6 = .ok (.ireturn, 1) := by decide +kernel
theorem dX4_reading_0 : decode cX4_reading 0 = .ok (.iconst 3, 1) := by decide +kernel
theorem dX4_reading_1 : decode cX4_reading 1 = .ok (.iload_n 1, 1) := by decide +kernel
theorem dX4_reading_2 : decode cX4_reading 2 = .ok (.invokestatic 216, 3) := by decide +kernel
theorem dX4_reading_5 : decode cX4_reading 5 = .ok (.invokestatic 195, 3) := by decide +kernel
theorem dX4_reading_8 : decode cX4_reading 8 = .ok (.istore_n 2, 1) := by decide +kernel
theorem dX4_reading_9 : decode cX4_reading 9 = .ok (.iconst 0, 1) := by decide +kernel
theorem dX4_reading_10 : decode cX4_reading 10 = .ok (.iload_n 2, 1) := by decide +kernel
theorem dX4_reading_11 : decode cX4_reading 11 = .ok (.iconst 1, 1) := by decide +kernel
theorem dX4_reading_12 : decode cX4_reading 12 = .ok (.isub, 1) := by decide +kernel
theorem dX4_reading_13 : decode cX4_reading 13 = .ok (.invokestatic 190, 3) := by decide +kernel
theorem dX4_reading_16 : decode cX4_reading 16 = .ok (.istore_n 3, 1) := by decide +kernel
theorem dX4_reading_17 : decode cX4_reading 17 = .ok (.iload_n 0, 1) := by decide +kernel
theorem dX4_reading_18 : decode cX4_reading 18 = .ok (.tableswitch 34 0 2 #[26, 28, 30], 26) := by decide +kernel
theorem dX4_reading_44 : decode cX4_reading 44 = .ok (.iload_n 2, 1) := by decide +kernel
theorem dX4_reading_45 : decode cX4_reading 45 = .ok (.ireturn, 1) := by decide +kernel
theorem dX4_reading_46 : decode cX4_reading 46 = .ok (.iload_n 3, 1) := by decide +kernel
theorem dX4_reading_47 : decode cX4_reading 47 = .ok (.ireturn, 1) := by decide +kernel
theorem dX4_reading_48 : decode cX4_reading 48 = .ok (.iconst 3, 1) := by decide +kernel
theorem dX4_reading_49 : decode cX4_reading 49 = .ok (.iload_n 2, 1) := by decide +kernel
theorem dX4_reading_50 : decode cX4_reading 50 = .ok (.isub, 1) := by decide +kernel
theorem dX4_reading_51 : decode cX4_reading 51 = .ok (.ireturn, 1) := by decide +kernel
theorem dX4_reading_52 : decode cX4_reading 52 = .ok (.iload_n 3, 1) := by decide +kernel
theorem dX4_reading_53 : decode cX4_reading 53 = .ok (.iconst 2, 1) := by decide +kernel
theorem dX4_reading_54 : decode cX4_reading 54 = .ok (.iadd, 1) := by decide +kernel
theorem dX4_reading_55 : decode cX4_reading 55 = .ok (.iconst 4, 1) := by decide +kernel
theorem dX4_reading_56 : decode cX4_reading 56 = .ok (.irem, 1) := by decide +kernel
theorem dX4_reading_57 : decode cX4_reading 57 = .ok (.ireturn, 1) := by decide +kernel
theorem dX4_image_0 : decode cX4_image 0 = .ok (.iload_n 1, 1) := by decide +kernel
theorem dX4_image_1 : decode cX4_image 1 = .ok (.ifCond .ne 10, 3) := by decide +kernel
theorem dX4_image_4 : decode cX4_image 4 = .ok (.aload_n 0, 1) := by decide +kernel
theorem dX4_image_5 : decode cX4_image 5 = .ok (.getfield 19, 3) := by decide +kernel
theorem dX4_image_8 : decode cX4_image 8 = .ok (.goto 7, 3) := by decide +kernel
theorem dX4_image_11 : decode cX4_image 11 = .ok (.aload_n 0, 1) := by decide +kernel
theorem dX4_image_12 : decode cX4_image 12 = .ok (.getfield 22, 3) := by decide +kernel
theorem dX4_image_15 : decode cX4_image 15 = .ok (.areturn, 1) := by decide +kernel
theorem dX4_sendFrom_0 : decode cX4_sendFrom 0 = .ok (.aload_n 0, 1) := by decide +kernel
theorem dX4_sendFrom_1 : decode cX4_sendFrom 1 = .ok (.aload_n 0, 1) := by decide +kernel
theorem dX4_sendFrom_2 : decode cX4_sendFrom 2 = .ok (.getfield 42, 3) := by decide +kernel
theorem dX4_sendFrom_5 : decode cX4_sendFrom 5 = .ok (.iload_n 1, 1) := by decide +kernel
theorem dX4_sendFrom_6 : decode cX4_sendFrom 6 = .ok (.iload_n 2, 1) := by decide +kernel
theorem dX4_sendFrom_7 : decode cX4_sendFrom 7 = .ok (.invokevirtual 282, 3) := by decide +kernel
theorem dX4_sendFrom_10 : decode cX4_sendFrom 10 = .ok (.aload_n 0, 1) := by decide +kernel
theorem dX4_sendFrom_11 : decode cX4_sendFrom 11 = .ok (.getfield 42, 3) := by decide +kernel
theorem dX4_sendFrom_14 : decode cX4_sendFrom 14 = .ok (.iload_n 1, 1) := by decide +kernel
theorem dX4_sendFrom_15 : decode cX4_sendFrom 15 = .ok (.iload_n 2, 1) := by decide +kernel
theorem dX4_sendFrom_16 : decode cX4_sendFrom 16 = .ok (.iconst 1, 1) := by decide +kernel
theorem dX4_sendFrom_17 : decode cX4_sendFrom 17 = .ok (.iadd, 1) := by decide +kernel
theorem dX4_sendFrom_18 : decode cX4_sendFrom 18 = .ok (.invokevirtual 282, 3) := by decide +kernel
theorem dX4_sendFrom_21 : decode cX4_sendFrom 21 = .ok (.aload_n 0, 1) := by decide +kernel
theorem dX4_sendFrom_22 : decode cX4_sendFrom 22 = .ok (.getfield 42, 3) := by decide +kernel
theorem dX4_sendFrom_25 : decode cX4_sendFrom 25 = .ok (.iload_n 1, 1) := by decide +kernel
theorem dX4_sendFrom_26 : decode cX4_sendFrom 26 = .ok (.iload_n 2, 1) := by decide +kernel
theorem dX4_sendFrom_27 : decode cX4_sendFrom 27 = .ok (.iconst 2, 1) := by decide +kernel
theorem dX4_sendFrom_28 : decode cX4_sendFrom 28 = .ok (.iadd, 1) := by decide +kernel
theorem dX4_sendFrom_29 : decode cX4_sendFrom 29 = .ok (.invokevirtual 282, 3) := by decide +kernel
theorem dX4_sendFrom_32 : decode cX4_sendFrom 32 = .ok (.aload_n 0, 1) := by decide +kernel
theorem dX4_sendFrom_33 : decode cX4_sendFrom 33 = .ok (.getfield 42, 3) := by decide +kernel
theorem dX4_sendFrom_36 : decode cX4_sendFrom 36 = .ok (.iload_n 1, 1) := by decide +kernel
theorem dX4_sendFrom_37 : decode cX4_sendFrom 37 = .ok (.iload_n 2, 1) := by decide +kernel
theorem dX4_sendFrom_38 : decode cX4_sendFrom 38 = .ok (.iconst 3, 1) := by decide +kernel
theorem dX4_sendFrom_39 : decode cX4_sendFrom 39 = .ok (.iadd, 1) := by decide +kernel
theorem dX4_sendFrom_40 : decode cX4_sendFrom 40 = .ok (.invokevirtual 282, 3) := by decide +kernel
theorem dX4_sendFrom_43 : decode cX4_sendFrom 43 = .ok (.invokevirtual 285, 3) := by decide +kernel
theorem dX4_sendFrom_46 : decode cX4_sendFrom 46 = .ok (.ireturn, 1) := by decide +kernel
theorem dX4_agreeingBehind_0 : decode cX4_agreeingBehind 0 = .ok (.aload_n 0, 1) := by decide +kernel
theorem dX4_agreeingBehind_1 : decode cX4_agreeingBehind 1 = .ok (.getfield 16, 3) := by decide +kernel
theorem dX4_agreeingBehind_4 : decode cX4_agreeingBehind 4 = .ok (.iload_n 1, 1) := by decide +kernel
theorem dX4_agreeingBehind_5 : decode cX4_agreeingBehind 5 = .ok (.invokevirtual 169, 3) := by decide +kernel
theorem dX4_agreeingBehind_8 : decode cX4_agreeingBehind 8 = .ok (.pop, 1) := by decide +kernel
theorem dX4_agreeingBehind_9 : decode cX4_agreeingBehind 9 = .ok (.aload_n 0, 1) := by decide +kernel
theorem dX4_agreeingBehind_10 : decode cX4_agreeingBehind 10 = .ok (.getfield 16, 3) := by decide +kernel
theorem dX4_agreeingBehind_13 : decode cX4_agreeingBehind 13 = .ok (.invokevirtual 98, 3) := by decide +kernel
theorem dX4_agreeingBehind_16 : decode cX4_agreeingBehind 16 = .ok (.invokestatic 216, 3) := by decide +kernel
theorem dX4_agreeingBehind_19 : decode cX4_agreeingBehind 19 = .ok (.ireturn, 1) := by decide +kernel
theorem dX4_fittingUps_0 : decode cX4_fittingUps 0 = .ok (.iconst 0, 1) := by decide +kernel
theorem dX4_fittingUps_1 : decode cX4_fittingUps 1 = .ok (.istore_n 2, 1) := by decide +kernel
theorem dX4_fittingUps_2 : decode cX4_fittingUps 2 = .ok (.iconst 0, 1) := by decide +kernel
theorem dX4_fittingUps_3 : decode cX4_fittingUps 3 = .ok (.istore_n 3, 1) := by decide +kernel
theorem dX4_fittingUps_4 : decode cX4_fittingUps 4 = .ok (.iload_n 3, 1) := by decide +kernel
theorem dX4_fittingUps_5 : decode cX4_fittingUps 5 = .ok (.bipush 16, 2) := by decide +kernel
theorem dX4_fittingUps_7 : decode cX4_fittingUps 7 = .ok (.if_icmp .ge 54, 3) := by decide +kernel
theorem dX4_fittingUps_10 : decode cX4_fittingUps 10 = .ok (.aload_n 0, 1) := by decide +kernel
theorem dX4_fittingUps_11 : decode cX4_fittingUps 11 = .ok (.getfield 16, 3) := by decide +kernel
theorem dX4_fittingUps_14 : decode cX4_fittingUps 14 = .ok (.aload_n 0, 1) := by decide +kernel
theorem dX4_fittingUps_15 : decode cX4_fittingUps 15 = .ok (.getfield 10, 3) := by decide +kernel
theorem dX4_fittingUps_18 : decode cX4_fittingUps 18 = .ok (.invokevirtual 71, 3) := by decide +kernel
theorem dX4_fittingUps_21 : decode cX4_fittingUps 21 = .ok (.aload_n 0, 1) := by decide +kernel
theorem dX4_fittingUps_22 : decode cX4_fittingUps 22 = .ok (.getfield 16, 3) := by decide +kernel
theorem dX4_fittingUps_25 : decode cX4_fittingUps 25 = .ok (.getfield 112, 3) := by decide +kernel
theorem dX4_fittingUps_28 : decode cX4_fittingUps 28 = .ok (.iload_n 1, 1) := by decide +kernel
theorem dX4_fittingUps_29 : decode cX4_fittingUps 29 = .ok (.iload_n 3, 1) := by decide +kernel
theorem dX4_fittingUps_30 : decode cX4_fittingUps 30 = .ok (.iastore, 1) := by decide +kernel
theorem dX4_fittingUps_31 : decode cX4_fittingUps 31 = .ok (.iload_n 2, 1) := by decide +kernel
theorem dX4_fittingUps_32 : decode cX4_fittingUps 32 = .ok (.aload_n 0, 1) := by decide +kernel
theorem dX4_fittingUps_33 : decode cX4_fittingUps 33 = .ok (.getfield 35, 3) := by decide +kernel
theorem dX4_fittingUps_36 : decode cX4_fittingUps 36 = .ok (.aload_n 0, 1) := by decide +kernel
theorem dX4_fittingUps_37 : decode cX4_fittingUps 37 = .ok (.getfield 16, 3) := by decide +kernel
theorem dX4_fittingUps_40 : decode cX4_fittingUps 40 = .ok (.invokevirtual 234, 3) := by decide +kernel
theorem dX4_fittingUps_43 : decode cX4_fittingUps 43 = .ok (.ifCond .eq 9, 3) := by decide +kernel
theorem dX4_fittingUps_46 : decode cX4_fittingUps 46 = .ok (.iconst 1, 1) := by decide +kernel
theorem dX4_fittingUps_47 : decode cX4_fittingUps 47 = .ok (.iload_n 3, 1) := by decide +kernel
theorem dX4_fittingUps_48 : decode cX4_fittingUps 48 = .ok (.ishl, 1) := by decide +kernel
theorem dX4_fittingUps_49 : decode cX4_fittingUps 49 = .ok (.goto 4, 3) := by decide +kernel
theorem dX4_fittingUps_52 : decode cX4_fittingUps 52 = .ok (.iconst 0, 1) := by decide +kernel
theorem dX4_fittingUps_53 : decode cX4_fittingUps 53 = .ok (.ior, 1) := by decide +kernel
theorem dX4_fittingUps_54 : decode cX4_fittingUps 54 = .ok (.istore_n 2, 1) := by decide +kernel
theorem dX4_fittingUps_55 : decode cX4_fittingUps 55 = .ok (.iinc 3 1, 3) := by decide +kernel
theorem dX4_fittingUps_58 : decode cX4_fittingUps 58 = .ok (.goto (-54), 3) := by decide +kernel
theorem dX4_fittingUps_61 : decode cX4_fittingUps 61 = .ok (.iload_n 2, 1) := by decide +kernel
theorem dX4_fittingUps_62 : decode cX4_fittingUps 62 = .ok (.ireturn, 1) := by decide +kernel
theorem dX4_clangsByOdds_0 : decode cX4_clangsByOdds 0 = .ok (.aload_n 0, 1) := by decide +kernel
theorem dX4_clangsByOdds_1 : decode cX4_clangsByOdds 1 = .ok (.getfield 10, 3) := by decide +kernel
theorem dX4_clangsByOdds_4 : decode cX4_clangsByOdds 4 = .ok (.iload_n 2, 1) := by decide +kernel
theorem dX4_clangsByOdds_5 : decode cX4_clangsByOdds 5 = .ok (.invokevirtual 209, 3) := by decide +kernel
theorem dX4_clangsByOdds_8 : decode cX4_clangsByOdds 8 = .ok (.istore 4, 2) := by decide +kernel
theorem dX4_clangsByOdds_10 : decode cX4_clangsByOdds 10 = .ok (.lconst 0, 1) := by decide +kernel
theorem dX4_clangsByOdds_11 : decode cX4_clangsByOdds 11 = .ok (.lstore 5, 2) := by decide +kernel
theorem dX4_clangsByOdds_13 : decode cX4_clangsByOdds 13 = .ok (.iconst 0, 1) := by decide +kernel
theorem dX4_clangsByOdds_14 : decode cX4_clangsByOdds 14 = .ok (.istore 7, 2) := by decide +kernel
theorem dX4_clangsByOdds_16 : decode cX4_clangsByOdds 16 = .ok (.iload 7, 2) := by decide +kernel
theorem dX4_clangsByOdds_18 : decode cX4_clangsByOdds 18 = .ok (.sipush 256, 3) := by decide +kernel
theorem dX4_clangsByOdds_21 : decode cX4_clangsByOdds 21 = .ok (.if_icmp .ge 67, 3) := by decide +kernel
theorem dX4_clangsByOdds_24 : decode cX4_clangsByOdds 24 = .ok (.iload 7, 2) := by decide +kernel
theorem dX4_clangsByOdds_26 : decode cX4_clangsByOdds 26 = .ok (.iload 4, 2) := by decide +kernel
theorem dX4_clangsByOdds_28 : decode cX4_clangsByOdds 28 = .ok (.iconst (-1), 1) := by decide +kernel
theorem dX4_clangsByOdds_29 : decode cX4_clangsByOdds 29 = .ok (.ixor, 1) := by decide +kernel
theorem dX4_clangsByOdds_30 : decode cX4_clangsByOdds 30 = .ok (.iand, 1) := by decide +kernel
theorem dX4_clangsByOdds_31 : decode cX4_clangsByOdds 31 = .ok (.ifCond .ne 51, 3) := by decide +kernel
theorem dX4_clangsByOdds_34 : decode cX4_clangsByOdds 34 = .ok (.aload_n 0, 1) := by decide +kernel
theorem dX4_clangsByOdds_35 : decode cX4_clangsByOdds 35 = .ok (.getfield 16, 3) := by decide +kernel
theorem dX4_clangsByOdds_38 : decode cX4_clangsByOdds 38 = .ok (.aload_n 0, 1) := by decide +kernel
theorem dX4_clangsByOdds_39 : decode cX4_clangsByOdds 39 = .ok (.getfield 10, 3) := by decide +kernel
theorem dX4_clangsByOdds_42 : decode cX4_clangsByOdds 42 = .ok (.invokevirtual 71, 3) := by decide +kernel
theorem dX4_clangsByOdds_45 : decode cX4_clangsByOdds 45 = .ok (.aload_n 0, 1) := by decide +kernel
theorem dX4_clangsByOdds_46 : decode cX4_clangsByOdds 46 = .ok (.getfield 16, 3) := by decide +kernel
theorem dX4_clangsByOdds_49 : decode cX4_clangsByOdds 49 = .ok (.iload 7, 2) := by decide +kernel
theorem dX4_clangsByOdds_51 : decode cX4_clangsByOdds 51 = .ok (.iload 4, 2) := by decide +kernel
theorem dX4_clangsByOdds_53 : decode cX4_clangsByOdds 53 = .ok (.iconst (-1), 1) := by decide +kernel
theorem dX4_clangsByOdds_54 : decode cX4_clangsByOdds 54 = .ok (.ixor, 1) := by decide +kernel
theorem dX4_clangsByOdds_55 : decode cX4_clangsByOdds 55 = .ok (.ior, 1) := by decide +kernel
theorem dX4_clangsByOdds_56 : decode cX4_clangsByOdds 56 = .ok (.putfield 201, 3) := by decide +kernel
theorem dX4_clangsByOdds_59 : decode cX4_clangsByOdds 59 = .ok (.lload 5, 2) := by decide +kernel
theorem dX4_clangsByOdds_61 : decode cX4_clangsByOdds 61 = .ok (.iload_n 1, 1) := by decide +kernel
theorem dX4_clangsByOdds_62 : decode cX4_clangsByOdds 62 = .ok (.iload 7, 2) := by decide +kernel
theorem dX4_clangsByOdds_64 : decode cX4_clangsByOdds 64 = .ok (.iload 4, 2) := by decide +kernel
theorem dX4_clangsByOdds_66 : decode cX4_clangsByOdds 66 = .ok (.invokestatic 212, 3) := by decide +kernel
theorem dX4_clangsByOdds_69 : decode cX4_clangsByOdds 69 = .ok (.aload_n 0, 1) := by decide +kernel
theorem dX4_clangsByOdds_70 : decode cX4_clangsByOdds 70 = .ok (.getfield 16, 3) := by decide +kernel
theorem dX4_clangsByOdds_73 : decode cX4_clangsByOdds 73 = .ok (.iload_n 3, 1) := by decide +kernel
theorem dX4_clangsByOdds_74 : decode cX4_clangsByOdds 74 = .ok (.invokevirtual 169, 3) := by decide +kernel
theorem dX4_clangsByOdds_77 : decode cX4_clangsByOdds 77 = .ok (.i2l, 1) := by decide +kernel
theorem dX4_clangsByOdds_78 : decode cX4_clangsByOdds 78 = .ok (.lmul, 1) := by decide +kernel
theorem dX4_clangsByOdds_79 : decode cX4_clangsByOdds 79 = .ok (.ladd, 1) := by decide +kernel
theorem dX4_clangsByOdds_80 : decode cX4_clangsByOdds 80 = .ok (.lstore 5, 2) := by decide +kernel
theorem dX4_clangsByOdds_82 : decode cX4_clangsByOdds 82 = .ok (.iinc 7 1, 3) := by decide +kernel
theorem dX4_clangsByOdds_85 : decode cX4_clangsByOdds 85 = .ok (.goto (-69), 3) := by decide +kernel
theorem dX4_clangsByOdds_88 : decode cX4_clangsByOdds 88 = .ok (.lload 5, 2) := by decide +kernel
theorem dX4_clangsByOdds_90 : decode cX4_clangsByOdds 90 = .ok (.lreturn, 1) := by decide +kernel
theorem dX4_oddsOf_0 : decode cX4_oddsOf 0 = .ok (.iload_n 1, 1) := by decide +kernel
theorem dX4_oddsOf_1 : decode cX4_oddsOf 1 = .ok (.invokestatic 216, 3) := by decide +kernel
theorem dX4_oddsOf_4 : decode cX4_oddsOf 4 = .ok (.istore_n 3, 1) := by decide +kernel
theorem dX4_oddsOf_5 : decode cX4_oddsOf 5 = .ok (.iload_n 0, 1) := by decide +kernel
theorem dX4_oddsOf_6 : decode cX4_oddsOf 6 = .ok (.iload_n 3, 1) := by decide +kernel
theorem dX4_oddsOf_7 : decode cX4_oddsOf 7 = .ok (.invokestatic 221, 3) := by decide +kernel
theorem dX4_oddsOf_10 : decode cX4_oddsOf 10 = .ok (.bipush 10, 2) := by decide +kernel
theorem dX4_oddsOf_12 : decode cX4_oddsOf 12 = .ok (.iload_n 0, 1) := by decide +kernel
theorem dX4_oddsOf_13 : decode cX4_oddsOf 13 = .ok (.isub, 1) := by decide +kernel
theorem dX4_oddsOf_14 : decode cX4_oddsOf 14 = .ok (.iload_n 2, 1) := by decide +kernel
theorem dX4_oddsOf_15 : decode cX4_oddsOf 15 = .ok (.invokestatic 216, 3) := by decide +kernel
theorem dX4_oddsOf_18 : decode cX4_oddsOf 18 = .ok (.iload_n 3, 1) := by decide +kernel
theorem dX4_oddsOf_19 : decode cX4_oddsOf 19 = .ok (.isub, 1) := by decide +kernel
theorem dX4_oddsOf_20 : decode cX4_oddsOf 20 = .ok (.invokestatic 221, 3) := by decide +kernel
theorem dX4_oddsOf_23 : decode cX4_oddsOf 23 = .ok (.lmul, 1) := by decide +kernel
theorem dX4_oddsOf_24 : decode cX4_oddsOf 24 = .ok (.lreturn, 1) := by decide +kernel
theorem dX4_power_0 : decode cX4_power 0 = .ok (.lconst 1, 1) := by decide +kernel
theorem dX4_power_1 : decode cX4_power 1 = .ok (.lstore_n 2, 1) := by decide +kernel
theorem dX4_power_2 : decode cX4_power 2 = .ok (.iconst 0, 1) := by decide +kernel
theorem dX4_power_3 : decode cX4_power 3 = .ok (.istore 4, 2) := by decide +kernel
theorem dX4_power_5 : decode cX4_power 5 = .ok (.iload 4, 2) := by decide +kernel
theorem dX4_power_7 : decode cX4_power 7 = .ok (.iload_n 1, 1) := by decide +kernel
theorem dX4_power_8 : decode cX4_power 8 = .ok (.if_icmp .ge 14, 3) := by decide +kernel
theorem dX4_power_11 : decode cX4_power 11 = .ok (.lload_n 2, 1) := by decide +kernel
theorem dX4_power_12 : decode cX4_power 12 = .ok (.iload_n 0, 1) := by decide +kernel
theorem dX4_power_13 : decode cX4_power 13 = .ok (.i2l, 1) := by decide +kernel
theorem dX4_power_14 : decode cX4_power 14 = .ok (.lmul, 1) := by decide +kernel
theorem dX4_power_15 : decode cX4_power 15 = .ok (.lstore_n 2, 1) := by decide +kernel
theorem dX4_power_16 : decode cX4_power 16 = .ok (.iinc 4 1, 3) := by decide +kernel
theorem dX4_power_19 : decode cX4_power 19 = .ok (.goto (-14), 3) := by decide +kernel
theorem dX4_power_22 : decode cX4_power 22 = .ok (.lload_n 2, 1) := by decide +kernel
theorem dX4_power_23 : decode cX4_power 23 = .ok (.lreturn, 1) := by decide +kernel
theorem dX4_lowestTerms_0 : decode cX4_lowestTerms 0 = .ok (.lload_n 2, 1) := by decide +kernel
theorem dX4_lowestTerms_1 : decode cX4_lowestTerms 1 = .ok (.lstore 5, 2) := by decide +kernel
theorem dX4_lowestTerms_3 : decode cX4_lowestTerms 3 = .ok (.lload_n 0, 1) := by decide +kernel
theorem dX4_lowestTerms_4 : decode cX4_lowestTerms 4 = .ok (.lstore 7, 2) := by decide +kernel
theorem dX4_lowestTerms_6 : decode cX4_lowestTerms 6 = .ok (.iconst 0, 1) := by decide +kernel
theorem dX4_lowestTerms_7 : decode cX4_lowestTerms 7 = .ok (.istore 9, 2) := by decide +kernel
theorem dX4_lowestTerms_9 : decode cX4_lowestTerms 9 = .ok (.iload 9, 2) := by decide +kernel
theorem dX4_lowestTerms_11 : decode cX4_lowestTerms 11 = .ok (.bipush 100, 2) := by decide +kernel
theorem dX4_lowestTerms_13 : decode cX4_lowestTerms 13 = .ok (.if_icmp .ge 31, 3) := by decide +kernel
theorem dX4_lowestTerms_16 : decode cX4_lowestTerms 16 = .ok (.lload 7, 2) := by decide +kernel
theorem dX4_lowestTerms_18 : decode cX4_lowestTerms 18 = .ok (.lconst 0, 1) := by decide +kernel
theorem dX4_lowestTerms_19 : decode cX4_lowestTerms 19 = .ok (.lcmp, 1) := by decide +kernel
theorem dX4_lowestTerms_20 : decode cX4_lowestTerms 20 = .ok (.ifCond .eq 24, 3) := by decide +kernel
theorem dX4_lowestTerms_23 : decode cX4_lowestTerms 23 = .ok (.lload 5, 2) := by decide +kernel
theorem dX4_lowestTerms_25 : decode cX4_lowestTerms 25 = .ok (.lload 7, 2) := by decide +kernel
theorem dX4_lowestTerms_27 : decode cX4_lowestTerms 27 = .ok (.lrem, 1) := by decide +kernel
theorem dX4_lowestTerms_28 : decode cX4_lowestTerms 28 = .ok (.lstore 10, 2) := by decide +kernel
theorem dX4_lowestTerms_30 : decode cX4_lowestTerms 30 = .ok (.lload 7, 2) := by decide +kernel
theorem dX4_lowestTerms_32 : decode cX4_lowestTerms 32 = .ok (.lstore 5, 2) := by decide +kernel
theorem dX4_lowestTerms_34 : decode cX4_lowestTerms 34 = .ok (.lload 10, 2) := by decide +kernel
theorem dX4_lowestTerms_36 : decode cX4_lowestTerms 36 = .ok (.lstore 7, 2) := by decide +kernel
theorem dX4_lowestTerms_38 : decode cX4_lowestTerms 38 = .ok (.iinc 9 1, 3) := by decide +kernel
theorem dX4_lowestTerms_41 : decode cX4_lowestTerms 41 = .ok (.goto (-32), 3) := by decide +kernel
theorem dX4_lowestTerms_44 : decode cX4_lowestTerms 44 = .ok (.iload 4, 2) := by decide +kernel
theorem dX4_lowestTerms_46 : decode cX4_lowestTerms 46 = .ok (.ifCond .ne 7, 3) := by decide +kernel
theorem dX4_lowestTerms_49 : decode cX4_lowestTerms 49 = .ok (.lload_n 0, 1) := by decide +kernel
theorem dX4_lowestTerms_50 : decode cX4_lowestTerms 50 = .ok (.goto 4, 3) := by decide +kernel
theorem dX4_lowestTerms_53 : decode cX4_lowestTerms 53 = .ok (.lload_n 2, 1) := by decide +kernel
theorem dX4_lowestTerms_54 : decode cX4_lowestTerms 54 = .ok (.lstore 9, 2) := by decide +kernel
theorem dX4_lowestTerms_56 : decode cX4_lowestTerms 56 = .ok (.lload 5, 2) := by decide +kernel
theorem dX4_lowestTerms_58 : decode cX4_lowestTerms 58 = .ok (.lconst 0, 1) := by decide +kernel
theorem dX4_lowestTerms_59 : decode cX4_lowestTerms 59 = .ok (.lcmp, 1) := by decide +kernel
theorem dX4_lowestTerms_60 : decode cX4_lowestTerms 60 = .ok (.ifCond .ne 8, 3) := by decide +kernel
theorem dX4_lowestTerms_63 : decode cX4_lowestTerms 63 = .ok (.lload 9, 2) := by decide +kernel
theorem dX4_lowestTerms_65 : decode cX4_lowestTerms 65 = .ok (.goto 8, 3) := by decide +kernel
theorem dX4_lowestTerms_68 : decode cX4_lowestTerms 68 = .ok (.lload 9, 2) := by decide +kernel
theorem dX4_lowestTerms_70 : decode cX4_lowestTerms 70 = .ok (.lload 5, 2) := by decide +kernel
theorem dX4_lowestTerms_72 : decode cX4_lowestTerms 72 = .ok (.ldiv, 1) := by decide +kernel
theorem dX4_lowestTerms_73 : decode cX4_lowestTerms 73 = .ok (.lreturn, 1) := by decide +kernel
end
section
theorem dX5_init_0 : decode cX5_init 0 = .ok (.aload_n 0, 1) := by decide +kernel
theorem dX5_init_1 : decode cX5_init 1 = .ok (.invokespecial 1, 3) := by decide +kernel
theorem dX5_init_4 : decode cX5_init 4 = .ok (.aload_n 0, 1) := by decide +kernel
theorem dX5_init_5 : decode cX5_init 5 = .ok (.sipush 330, 3) := by decide +kernel
theorem dX5_init_8 : decode cX5_init 8 = .ok (.newarray .int, 2) := by decide +kernel
theorem dX5_init_10 : decode cX5_init 10 = .ok (.putfield 7, 3) := by decide +kernel
theorem dX5_init_13 : decode cX5_init 13 = .ok (.aload_n 0, 1) := by decide +kernel
theorem dX5_init_14 : decode cX5_init 14 = .ok (.bipush 55, 2) := by decide +kernel
theorem dX5_init_16 : decode cX5_init 16 = .ok (.newarray .int, 2) := by decide +kernel
theorem dX5_init_18 : decode cX5_init 18 = .ok (.putfield 13, 3) := by decide +kernel
theorem dX5_init_21 : decode cX5_init 21 = .ok (.aload_n 0, 1) := by decide +kernel
theorem dX5_init_22 : decode cX5_init 22 = .ok (.sipush 160, 3) := by decide +kernel
theorem dX5_init_25 : decode cX5_init 25 = .ok (.newarray .int, 2) := by decide +kernel
theorem dX5_init_27 : decode cX5_init 27 = .ok (.putfield 16, 3) := by decide +kernel
theorem dX5_init_30 : decode cX5_init 30 = .ok (.aload_n 0, 1) := by decide +kernel
theorem dX5_init_31 : decode cX5_init 31 = .ok (.bipush 8, 2) := by decide +kernel
theorem dX5_init_33 : decode cX5_init 33 = .ok (.newarray .int, 2) := by decide +kernel
theorem dX5_init_35 : decode cX5_init 35 = .ok (.dup, 1) := by decide +kernel
theorem dX5_init_36 : decode cX5_init 36 = .ok (.iconst 0, 1) := by decide +kernel
theorem dX5_init_37 : decode cX5_init 37 = .ok (.iconst 0, 1) := by decide +kernel
theorem dX5_init_38 : decode cX5_init 38 = .ok (.iastore, 1) := by decide +kernel
theorem dX5_init_39 : decode cX5_init 39 = .ok (.dup, 1) := by decide +kernel
theorem dX5_init_40 : decode cX5_init 40 = .ok (.iconst 1, 1) := by decide +kernel
theorem dX5_init_41 : decode cX5_init 41 = .ok (.iconst 5, 1) := by decide +kernel
theorem dX5_init_42 : decode cX5_init 42 = .ok (.iastore, 1) := by decide +kernel
theorem dX5_init_43 : decode cX5_init 43 = .ok (.dup, 1) := by decide +kernel
theorem dX5_init_44 : decode cX5_init 44 = .ok (.iconst 2, 1) := by decide +kernel
theorem dX5_init_45 : decode cX5_init 45 = .ok (.bipush 12, 2) := by decide +kernel
theorem dX5_init_47 : decode cX5_init 47 = .ok (.iastore, 1) := by decide +kernel
theorem dX5_init_48 : decode cX5_init 48 = .ok (.dup, 1) := by decide +kernel
theorem dX5_init_49 : decode cX5_init 49 = .ok (.iconst 3, 1) := by decide +kernel
theorem dX5_init_50 : decode cX5_init 50 = .ok (.bipush 19, 2) := by decide +kernel
theorem dX5_init_52 : decode cX5_init 52 = .ok (.iastore, 1) := by decide +kernel
theorem dX5_init_53 : decode cX5_init 53 = .ok (.dup, 1) := by decide +kernel
theorem dX5_init_54 : decode cX5_init 54 = .ok (.iconst 4, 1) := by decide +kernel
theorem dX5_init_55 : decode cX5_init 55 = .ok (.bipush 24, 2) := by decide +kernel
theorem dX5_init_57 : decode cX5_init 57 = .ok (.iastore, 1) := by decide +kernel
theorem dX5_init_58 : decode cX5_init 58 = .ok (.dup, 1) := by decide +kernel
theorem dX5_init_59 : decode cX5_init 59 = .ok (.iconst 5, 1) := by decide +kernel
theorem dX5_init_60 : decode cX5_init 60 = .ok (.bipush 26, 2) := by decide +kernel
theorem dX5_init_62 : decode cX5_init 62 = .ok (.iastore, 1) := by decide +kernel
theorem dX5_init_63 : decode cX5_init 63 = .ok (.dup, 1) := by decide +kernel
theorem dX5_init_64 : decode cX5_init 64 = .ok (.bipush 6, 2) := by decide +kernel
theorem dX5_init_66 : decode cX5_init 66 = .ok (.bipush 31, 2) := by decide +kernel
theorem dX5_init_68 : decode cX5_init 68 = .ok (.iastore, 1) := by decide +kernel
theorem dX5_init_69 : decode cX5_init 69 = .ok (.dup, 1) := by decide +kernel
theorem dX5_init_70 : decode cX5_init 70 = .ok (.bipush 7, 2) := by decide +kernel
theorem dX5_init_72 : decode cX5_init 72 = .ok (.bipush 36, 2) := by decide +kernel
theorem dX5_init_74 : decode cX5_init 74 = .ok (.iastore, 1) := by decide +kernel
theorem dX5_init_75 : decode cX5_init 75 = .ok (.putfield 19, 3) := by decide +kernel
theorem dX5_init_78 : decode cX5_init 78 = .ok (.aload_n 0, 1) := by decide +kernel
theorem dX5_init_79 : decode cX5_init 79 = .ok (.bipush 36, 2) := by decide +kernel
theorem dX5_init_81 : decode cX5_init 81 = .ok (.newarray .int, 2) := by decide +kernel
theorem dX5_init_83 : decode cX5_init 83 = .ok (.dup, 1) := by decide +kernel
theorem dX5_init_84 : decode cX5_init 84 = .ok (.iconst 0, 1) := by decide +kernel
theorem dX5_init_85 : decode cX5_init 85 = .ok (.bipush 112, 2) := by decide +kernel
theorem dX5_init_87 : decode cX5_init 87 = .ok (.iastore, 1) := by decide +kernel
theorem dX5_init_88 : decode cX5_init 88 = .ok (.dup, 1) := by decide +kernel
theorem dX5_init_89 : decode cX5_init 89 = .ok (.iconst 1, 1) := by decide +kernel
theorem dX5_init_90 : decode cX5_init 90 = .ok (.bipush 108, 2) := by decide +kernel
theorem dX5_init_92 : decode cX5_init 92 = .ok (.iastore, 1) := by decide +kernel
theorem dX5_init_93 : decode cX5_init 93 = .ok (.dup, 1) := by decide +kernel
theorem dX5_init_94 : decode cX5_init 94 = .ok (.iconst 2, 1) := by decide +kernel
theorem dX5_init_95 : decode cX5_init 95 = .ok (.bipush 97, 2) := by decide +kernel
theorem dX5_init_97 : decode cX5_init 97 = .ok (.iastore, 1) := by decide +kernel
theorem dX5_init_98 : decode cX5_init 98 = .ok (.dup, 1) := by decide +kernel
theorem dX5_init_99 : decode cX5_init 99 = .ok (.iconst 3, 1) := by decide +kernel
theorem dX5_init_100 : decode cX5_init 100 = .ok (.bipush 105, 2) := by decide +kernel
theorem dX5_init_102 : decode cX5_init 102 = .ok (.iastore, 1) := by decide +kernel
theorem dX5_init_103 : decode cX5_init 103 = .ok (.dup, 1) := by decide +kernel
theorem dX5_init_104 : decode cX5_init 104 = .ok (.iconst 4, 1) := by decide +kernel
theorem dX5_init_105 : decode cX5_init 105 = .ok (.bipush 110, 2) := by decide +kernel
theorem dX5_init_107 : decode cX5_init 107 = .ok (.iastore, 1) := by decide +kernel
theorem dX5_init_108 : decode cX5_init 108 = .ok (.dup, 1) := by decide +kernel
theorem dX5_init_109 : decode cX5_init 109 = .ok (.iconst 5, 1) := by decide +kernel
theorem dX5_init_110 : decode cX5_init 110 = .ok (.bipush 109, 2) := by decide +kernel
theorem dX5_init_112 : decode cX5_init 112 = .ok (.iastore, 1) := by decide +kernel
theorem dX5_init_113 : decode cX5_init 113 = .ok (.dup, 1) := by decide +kernel
theorem dX5_init_114 : decode cX5_init 114 = .ok (.bipush 6, 2) := by decide +kernel
theorem dX5_init_116 : decode cX5_init 116 = .ok (.bipush 97, 2) := by decide +kernel
theorem dX5_init_118 : decode cX5_init 118 = .ok (.iastore, 1) := by decide +kernel
theorem dX5_init_119 : decode cX5_init 119 = .ok (.dup, 1) := by decide +kernel
theorem dX5_init_120 : decode cX5_init 120 = .ok (.bipush 7, 2) := by decide +kernel
theorem dX5_init_122 : decode cX5_init 122 = .ok (.bipush 114, 2) := by decide +kernel
theorem dX5_init_124 : decode cX5_init 124 = .ok (.iastore, 1) := by decide +kernel
theorem dX5_init_125 : decode cX5_init 125 = .ok (.dup, 1) := by decide +kernel
theorem dX5_init_126 : decode cX5_init 126 = .ok (.bipush 8, 2) := by decide +kernel
theorem dX5_init_128 : decode cX5_init 128 = .ok (.bipush 115, 2) := by decide +kernel
theorem dX5_init_130 : decode cX5_init 130 = .ok (.iastore, 1) := by decide +kernel
theorem dX5_init_131 : decode cX5_init 131 = .ok (.dup, 1) := by decide +kernel
theorem dX5_init_132 : decode cX5_init 132 = .ok (.bipush 9, 2) := by decide +kernel
theorem dX5_init_134 : decode cX5_init 134 = .ok (.bipush 104, 2) := by decide +kernel
theorem dX5_init_136 : decode cX5_init 136 = .ok (.iastore, 1) := by decide +kernel
theorem dX5_init_137 : decode cX5_init 137 = .ok (.dup, 1) := by decide +kernel
theorem dX5_init_138 : decode cX5_init 138 = .ok (.bipush 10, 2) := by decide +kernel
theorem dX5_init_140 : decode cX5_init 140 = .ok (.bipush 97, 2) := by decide +kernel
theorem dX5_init_142 : decode cX5_init 142 = .ok (.iastore, 1) := by decide +kernel
theorem dX5_init_143 : decode cX5_init 143 = .ok (.dup, 1) := by decide +kernel
theorem dX5_init_144 : decode cX5_init 144 = .ok (.bipush 11, 2) := by decide +kernel
theorem dX5_init_146 : decode cX5_init 146 = .ok (.bipush 108, 2) := by decide +kernel
theorem dX5_init_148 : decode cX5_init 148 = .ok (.iastore, 1) := by decide +kernel
theorem dX5_init_149 : decode cX5_init 149 = .ok (.dup, 1) := by decide +kernel
theorem dX5_init_150 : decode cX5_init 150 = .ok (.bipush 12, 2) := by decide +kernel
theorem dX5_init_152 : decode cX5_init 152 = .ok (.bipush 117, 2) := by decide +kernel
theorem dX5_init_154 : decode cX5_init 154 = .ok (.iastore, 1) := by decide +kernel
theorem dX5_init_155 : decode cX5_init 155 = .ok (.dup, 1) := by decide +kernel
theorem dX5_init_156 : decode cX5_init 156 = .ok (.bipush 13, 2) := by decide +kernel
theorem dX5_init_158 : decode cX5_init 158 = .ok (.bipush 115, 2) := by decide +kernel
theorem dX5_init_160 : decode cX5_init 160 = .ok (.iastore, 1) := by decide +kernel
theorem dX5_init_161 : decode cX5_init 161 = .ok (.dup, 1) := by decide +kernel
theorem dX5_init_162 : decode cX5_init 162 = .ok (.bipush 14, 2) := by decide +kernel
theorem dX5_init_164 : decode cX5_init 164 = .ok (.bipush 117, 2) := by decide +kernel
theorem dX5_init_166 : decode cX5_init 166 = .ok (.iastore, 1) := by decide +kernel
theorem dX5_init_167 : decode cX5_init 167 = .ok (.dup, 1) := by decide +kernel
theorem dX5_init_168 : decode cX5_init 168 = .ok (.bipush 15, 2) := by decide +kernel
theorem dX5_init_170 : decode cX5_init 170 = .ok (.bipush 114, 2) := by decide +kernel
theorem dX5_init_172 : decode cX5_init 172 = .ok (.iastore, 1) := by decide +kernel
theorem dX5_init_173 : decode cX5_init 173 = .ok (.dup, 1) := by decide +kernel
theorem dX5_init_174 : decode cX5_init 174 = .ok (.bipush 16, 2) := by decide +kernel
theorem dX5_init_176 : decode cX5_init 176 = .ok (.bipush 112, 2) := by decide +kernel
theorem dX5_init_178 : decode cX5_init 178 = .ok (.iastore, 1) := by decide +kernel
theorem dX5_init_179 : decode cX5_init 179 = .ok (.dup, 1) := by decide +kernel
theorem dX5_init_180 : decode cX5_init 180 = .ok (.bipush 17, 2) := by decide +kernel
theorem dX5_init_182 : decode cX5_init 182 = .ok (.bipush 101, 2) := by decide +kernel
theorem dX5_init_184 : decode cX5_init 184 = .ok (.iastore, 1) := by decide +kernel
theorem dX5_init_185 : decode cX5_init 185 = .ok (.dup, 1) := by decide +kernel
theorem dX5_init_186 : decode cX5_init 186 = .ok (.bipush 18, 2) := by decide +kernel
theorem dX5_init_188 : decode cX5_init 188 = .ok (.bipush 114, 2) := by decide +kernel
theorem dX5_init_190 : decode cX5_init 190 = .ok (.iastore, 1) := by decide +kernel
theorem dX5_init_191 : decode cX5_init 191 = .ok (.dup, 1) := by decide +kernel
theorem dX5_init_192 : decode cX5_init 192 = .ok (.bipush 19, 2) := by decide +kernel
theorem dX5_init_194 : decode cX5_init 194 = .ok (.bipush 113, 2) := by decide +kernel
theorem dX5_init_196 : decode cX5_init 196 = .ok (.iastore, 1) := by decide +kernel
theorem dX5_init_197 : decode cX5_init 197 = .ok (.dup, 1) := by decide +kernel
theorem dX5_init_198 : decode cX5_init 198 = .ok (.bipush 20, 2) := by decide +kernel
theorem dX5_init_200 : decode cX5_init 200 = .ok (.bipush 117, 2) := by decide +kernel
theorem dX5_init_202 : decode cX5_init 202 = .ok (.iastore, 1) := by decide +kernel
theorem dX5_init_203 : decode cX5_init 203 = .ok (.dup, 1) := by decide +kernel
theorem dX5_init_204 : decode cX5_init 204 = .ok (.bipush 21, 2) := by decide +kernel
theorem dX5_init_206 : decode cX5_init 206 = .ok (.bipush 105, 2) := by decide +kernel
theorem dX5_init_208 : decode cX5_init 208 = .ok (.iastore, 1) := by decide +kernel
theorem dX5_init_209 : decode cX5_init 209 = .ok (.dup, 1) := by decide +kernel
theorem dX5_init_210 : decode cX5_init 210 = .ok (.bipush 22, 2) := by decide +kernel
theorem dX5_init_212 : decode cX5_init 212 = .ok (.bipush 101, 2) := by decide +kernel
theorem dX5_init_214 : decode cX5_init 214 = .ok (.iastore, 1) := by decide +kernel
theorem dX5_init_215 : decode cX5_init 215 = .ok (.dup, 1) := by decide +kernel
theorem dX5_init_216 : decode cX5_init 216 = .ok (.bipush 23, 2) := by decide +kernel
theorem dX5_init_218 : decode cX5_init 218 = .ok (.bipush 116, 2) := by decide +kernel
theorem dX5_init_220 : decode cX5_init 220 = .ok (.iastore, 1) := by decide +kernel
theorem dX5_init_221 : decode cX5_init 221 = .ok (.dup, 1) := by decide +kernel
theorem dX5_init_222 : decode cX5_init 222 = .ok (.bipush 24, 2) := by decide +kernel
theorem dX5_init_224 : decode cX5_init 224 = .ok (.bipush 111, 2) := by decide +kernel
theorem dX5_init_226 : decode cX5_init 226 = .ok (.iastore, 1) := by decide +kernel
theorem dX5_init_227 : decode cX5_init 227 = .ok (.dup, 1) := by decide +kernel
theorem dX5_init_228 : decode cX5_init 228 = .ok (.bipush 25, 2) := by decide +kernel
theorem dX5_init_230 : decode cX5_init 230 = .ok (.bipush 110, 2) := by decide +kernel
theorem dX5_init_232 : decode cX5_init 232 = .ok (.iastore, 1) := by decide +kernel
theorem dX5_init_233 : decode cX5_init 233 = .ok (.dup, 1) := by decide +kernel
theorem dX5_init_234 : decode cX5_init 234 = .ok (.bipush 26, 2) := by decide +kernel
theorem dX5_init_236 : decode cX5_init 236 = .ok (.bipush 116, 2) := by decide +kernel
theorem dX5_init_238 : decode cX5_init 238 = .ok (.iastore, 1) := by decide +kernel
theorem dX5_init_239 : decode cX5_init 239 = .ok (.dup, 1) := by decide +kernel
theorem dX5_init_240 : decode cX5_init 240 = .ok (.bipush 27, 2) := by decide +kernel
theorem dX5_init_242 : decode cX5_init 242 = .ok (.bipush 114, 2) := by decide +kernel
theorem dX5_init_244 : decode cX5_init 244 = .ok (.iastore, 1) := by decide +kernel
theorem dX5_init_245 : decode cX5_init 245 = .ok (.dup, 1) := by decide +kernel
theorem dX5_init_246 : decode cX5_init 246 = .ok (.bipush 28, 2) := by decide +kernel
theorem dX5_init_248 : decode cX5_init 248 = .ok (.bipush 117, 2) := by decide +kernel
theorem dX5_init_250 : decode cX5_init 250 = .ok (.iastore, 1) := by decide +kernel
theorem dX5_init_251 : decode cX5_init 251 = .ok (.dup, 1) := by decide +kernel
theorem dX5_init_252 : decode cX5_init 252 = .ok (.bipush 29, 2) := by decide +kernel
theorem dX5_init_254 : decode cX5_init 254 = .ok (.bipush 115, 2) := by decide +kernel
theorem dX5_init_256 : decode cX5_init 256 = .ok (.iastore, 1) := by decide +kernel
theorem dX5_init_257 : decode cX5_init 257 = .ok (.dup, 1) := by decide +kernel
theorem dX5_init_258 : decode cX5_init 258 = .ok (.bipush 30, 2) := by decide +kernel
theorem dX5_init_260 : decode cX5_init 260 = .ok (.bipush 116, 2) := by decide +kernel
theorem dX5_init_262 : decode cX5_init 262 = .ok (.iastore, 1) := by decide +kernel
theorem dX5_init_263 : decode cX5_init 263 = .ok (.dup, 1) := by decide +kernel
theorem dX5_init_264 : decode cX5_init 264 = .ok (.bipush 31, 2) := by decide +kernel
theorem dX5_init_266 : decode cX5_init 266 = .ok (.bipush 98, 2) := by decide +kernel
theorem dX5_init_268 : decode cX5_init 268 = .ok (.iastore, 1) := by decide +kernel
theorem dX5_init_269 : decode cX5_init 269 = .ok (.dup, 1) := by decide +kernel
theorem dX5_init_270 : decode cX5_init 270 = .ok (.bipush 32, 2) := by decide +kernel
theorem dX5_init_272 : decode cX5_init 272 = .ok (.bipush 101, 2) := by decide +kernel
theorem dX5_init_274 : decode cX5_init 274 = .ok (.iastore, 1) := by decide +kernel
theorem dX5_init_275 : decode cX5_init 275 = .ok (.dup, 1) := by decide +kernel
theorem dX5_init_276 : decode cX5_init 276 = .ok (.bipush 33, 2) := by decide +kernel
theorem dX5_init_278 : decode cX5_init 278 = .ok (.bipush 97, 2) := by decide +kernel
theorem dX5_init_280 : decode cX5_init 280 = .ok (.iastore, 1) := by decide +kernel
theorem dX5_init_281 : decode cX5_init 281 = .ok (.dup, 1) := by decide +kernel
theorem dX5_init_282 : decode cX5_init 282 = .ok (.bipush 34, 2) := by decide +kernel
theorem dX5_init_284 : decode cX5_init 284 = .ok (.bipush 114, 2) := by decide +kernel
theorem dX5_init_286 : decode cX5_init 286 = .ok (.iastore, 1) := by decide +kernel
theorem dX5_init_287 : decode cX5_init 287 = .ok (.dup, 1) := by decide +kernel
theorem dX5_init_288 : decode cX5_init 288 = .ok (.bipush 35, 2) := by decide +kernel
theorem dX5_init_290 : decode cX5_init 290 = .ok (.bipush 115, 2) := by decide +kernel
theorem dX5_init_292 : decode cX5_init 292 = .ok (.iastore, 1) := by decide +kernel
theorem dX5_init_293 : decode cX5_init 293 = .ok (.putfield 22, 3) := by decide +kernel
theorem dX5_init_296 : decode cX5_init 296 = .ok (.aload_n 0, 1) := by decide +kernel
theorem dX5_init_297 : decode cX5_init 297 = .ok (.bipush 18, 2) := by decide +kernel
theorem dX5_init_299 : decode cX5_init 299 = .ok (.newarray .int, 2) := by decide +kernel
theorem dX5_init_301 : decode cX5_init 301 = .ok (.putfield 25, 3) := by decide +kernel
theorem dX5_init_304 : decode cX5_init 304 = .ok (.aload_n 0, 1) := by decide +kernel
theorem dX5_init_305 : decode cX5_init 305 = .ok (.sipush 1680, 3) := by decide +kernel
theorem dX5_init_308 : decode cX5_init 308 = .ok (.newarray .int, 2) := by decide +kernel
theorem dX5_init_310 : decode cX5_init 310 = .ok (.putfield 28, 3) := by decide +kernel
theorem dX5_init_313 : decode cX5_init 313 = .ok (.aload_n 0, 1) := by decide +kernel
theorem dX5_init_314 : decode cX5_init 314 = .ok (.iconst 2, 1) := by decide +kernel
theorem dX5_init_315 : decode cX5_init 315 = .ok (.newarray .boolean, 2) := by decide +kernel
theorem dX5_init_317 : decode cX5_init 317 = .ok (.putfield 31, 3) := by decide +kernel
theorem dX5_init_320 : decode cX5_init 320 = .ok (.aload_n 0, 1) := by decide +kernel
theorem dX5_init_321 : decode cX5_init 321 = .ok (.iconst 4, 1) := by decide +kernel
theorem dX5_init_322 : decode cX5_init 322 = .ok (.newarray .int, 2) := by decide +kernel
theorem dX5_init_324 : decode cX5_init 324 = .ok (.dup, 1) := by decide +kernel
theorem dX5_init_325 : decode cX5_init 325 = .ok (.iconst 0, 1) := by decide +kernel
theorem dX5_init_326 : decode cX5_init 326 = .ok (.bipush (-4), 2) := by decide +kernel
theorem dX5_init_328 : decode cX5_init 328 = .ok (.iastore, 1) := by decide +kernel
theorem dX5_init_329 : decode cX5_init 329 = .ok (.dup, 1) := by decide +kernel
theorem dX5_init_330 : decode cX5_init 330 = .ok (.iconst 1, 1) := by decide +kernel
theorem dX5_init_331 : decode cX5_init 331 = .ok (.bipush (-4), 2) := by decide +kernel
theorem dX5_init_333 : decode cX5_init 333 = .ok (.iastore, 1) := by decide +kernel
theorem dX5_init_334 : decode cX5_init 334 = .ok (.dup, 1) := by decide +kernel
theorem dX5_init_335 : decode cX5_init 335 = .ok (.iconst 2, 1) := by decide +kernel
theorem dX5_init_336 : decode cX5_init 336 = .ok (.bipush (-4), 2) := by decide +kernel
theorem dX5_init_338 : decode cX5_init 338 = .ok (.iastore, 1) := by decide +kernel
theorem dX5_init_339 : decode cX5_init 339 = .ok (.dup, 1) := by decide +kernel
theorem dX5_init_340 : decode cX5_init 340 = .ok (.iconst 3, 1) := by decide +kernel
theorem dX5_init_341 : decode cX5_init 341 = .ok (.bipush (-4), 2) := by decide +kernel
theorem dX5_init_343 : decode cX5_init 343 = .ok (.iastore, 1) := by decide +kernel
theorem dX5_init_344 : decode cX5_init 344 = .ok (.putfield 35, 3) := by decide +kernel
theorem dX5_init_347 : decode cX5_init 347 = .ok (.aload_n 0, 1) := by decide +kernel
theorem dX5_init_348 : decode cX5_init 348 = .ok (.iconst 4, 1) := by decide +kernel
theorem dX5_init_349 : decode cX5_init 349 = .ok (.newarray .int, 2) := by decide +kernel
theorem dX5_init_351 : decode cX5_init 351 = .ok (.putfield 38, 3) := by decide +kernel
theorem dX5_init_354 : decode cX5_init 354 = .ok (.aload_n 0, 1) := by decide +kernel
theorem dX5_init_355 : decode cX5_init 355 = .ok (.sipush 160, 3) := by decide +kernel
theorem dX5_init_358 : decode cX5_init 358 = .ok (.newarray .int, 2) := by decide +kernel
theorem dX5_init_360 : decode cX5_init 360 = .ok (.putfield 41, 3) := by decide +kernel
theorem dX5_init_363 : decode cX5_init 363 = .ok (.return_, 1) := by decide +kernel
theorem dX5_in_0 : decode cX5_in 0 = .ok (.lload_n 0, 1) := by decide +kernel
theorem dX5_in_1 : decode cX5_in 1 = .ok (.lload_n 2, 1) := by decide +kernel
theorem dX5_in_2 : decode cX5_in 2 = .ok (.lcmp, 1) := by decide +kernel
theorem dX5_in_3 : decode cX5_in 3 = .ok (.ifCond .lt 14, 3) := by decide +kernel
theorem dX5_in_6 : decode cX5_in 6 = .ok (.lload_n 0, 1) := by decide +kernel
theorem dX5_in_7 : decode cX5_in 7 = .ok (.lload 4, 2) := by decide +kernel
theorem dX5_in_9 : decode cX5_in 9 = .ok (.lcmp, 1) := by decide +kernel
theorem dX5_in_10 : decode cX5_in 10 = .ok (.ifCond .gt 7, 3) := by decide +kernel
theorem dX5_in_13 : decode cX5_in 13 = .ok (.iconst 1, 1) := by decide +kernel
theorem dX5_in_14 : decode cX5_in 14 = .ok (.goto 4, 3) := by decide +kernel
theorem dX5_in_17 : decode cX5_in 17 = .ok (.iconst 0, 1) := by decide +kernel
theorem dX5_in_18 : decode cX5_in 18 = .ok (.ireturn, 1) := by decide +kernel
theorem dX5_feed_0 : decode cX5_feed 0 = .ok (.iload_n 1, 1) := by decide +kernel
theorem dX5_feed_1 : decode cX5_feed 1 = .ok (.i2l, 1) := by decide +kernel
theorem dX5_feed_2 : decode cX5_feed 2 = .ok (.lconst 0, 1) := by decide +kernel
theorem dX5_feed_3 : decode cX5_feed 3 = .ok (.ldc2_w 44, 3) := by decide +kernel
theorem dX5_feed_6 : decode cX5_feed 6 = .ok (.invokestatic 46, 3) := by decide +kernel
theorem dX5_feed_9 : decode cX5_feed 9 = .ok (.ifCond .ne 5, 3) := by decide +kernel
theorem dX5_feed_12 : decode cX5_feed 12 = .ok (.iconst (-1), 1) := by decide +kernel
theorem dX5_feed_13 : decode cX5_feed 13 = .ok (.ireturn, 1) := by decide +kernel
theorem dX5_feed_14 : decode cX5_feed 14 = .ok (.aload_n 0, 1) := by decide +kernel
theorem dX5_feed_15 : decode cX5_feed 15 = .ok (.getfield 50, 3) := by decide +kernel
theorem dX5_feed_18 : decode cX5_feed 18 = .ok (.sipush 160, 3) := by decide +kernel
theorem dX5_feed_21 : decode cX5_feed 21 = .ok (.if_icmp .ne 6, 3) := by decide +kernel
theorem dX5_feed_24 : decode cX5_feed 24 = .ok (.bipush (-3), 2) := by decide +kernel
theorem dX5_feed_26 : decode cX5_feed 26 = .ok (.ireturn, 1) := by decide +kernel
theorem dX5_feed_27 : decode cX5_feed 27 = .ok (.aload_n 0, 1) := by decide +kernel
theorem dX5_feed_28 : decode cX5_feed 28 = .ok (.getfield 16, 3) := by decide +kernel
theorem dX5_feed_31 : decode cX5_feed 31 = .ok (.aload_n 0, 1) := by decide +kernel
theorem dX5_feed_32 : decode cX5_feed 32 = .ok (.getfield 50, 3) := by decide +kernel
theorem dX5_feed_35 : decode cX5_feed 35 = .ok (.iload_n 1, 1) := by decide +kernel
theorem dX5_feed_36 : decode cX5_feed 36 = .ok (.iastore, 1) := by decide +kernel
theorem dX5_feed_37 : decode cX5_feed 37 = .ok (.aload_n 0, 1) := by decide +kernel
theorem dX5_feed_38 : decode cX5_feed 38 = .ok (.dup, 1) := by decide +kernel
theorem dX5_feed_39 : decode cX5_feed 39 = .ok (.getfield 50, 3) := by decide +kernel
theorem dX5_feed_42 : decode cX5_feed 42 = .ok (.iconst 1, 1) := by decide +kernel
theorem dX5_feed_43 : decode cX5_feed 43 = .ok (.iadd, 1) := by decide +kernel
theorem dX5_feed_44 : decode cX5_feed 44 = .ok (.putfield 50, 3) := by decide +kernel
theorem dX5_feed_47 : decode cX5_feed 47 = .ok (.aload_n 0, 1) := by decide +kernel
theorem dX5_feed_48 : decode cX5_feed 48 = .ok (.getfield 50, 3) := by decide +kernel
theorem dX5_feed_51 : decode cX5_feed 51 = .ok (.ireturn, 1) := by decide +kernel
theorem dX5_end_0 : decode cX5_end 0 = .ok (.iload_n 1, 1) := by decide +kernel
theorem dX5_end_1 : decode cX5_end 1 = .ok (.i2l, 1) := by decide +kernel
theorem dX5_end_2 : decode cX5_end 2 = .ok (.lconst 0, 1) := by decide +kernel
theorem dX5_end_3 : decode cX5_end 3 = .ok (.aload_n 0, 1) := by decide +kernel
theorem dX5_end_4 : decode cX5_end 4 = .ok (.getfield 50, 3) := by decide +kernel
theorem dX5_end_7 : decode cX5_end 7 = .ok (.i2l, 1) := by decide +kernel
theorem dX5_end_8 : decode cX5_end 8 = .ok (.invokestatic 46, 3) := by decide +kernel
theorem dX5_end_11 : decode cX5_end 11 = .ok (.ifCond .ne 5, 3) := by decide +kernel
theorem dX5_end_14 : decode cX5_end 14 = .ok (.iconst (-1), 1) := by decide +kernel
theorem dX5_end_15 : decode cX5_end 15 = .ok (.ireturn, 1) := by decide +kernel
theorem dX5_end_16 : decode cX5_end 16 = .ok (.aload_n 0, 1) := by decide +kernel
theorem dX5_end_17 : decode cX5_end 17 = .ok (.getfield 50, 3) := by decide +kernel
theorem dX5_end_20 : decode cX5_end 20 = .ok (.istore_n 2, 1) := by decide +kernel
theorem dX5_end_21 : decode cX5_end 21 = .ok (.aload_n 0, 1) := by decide +kernel
theorem dX5_end_22 : decode cX5_end 22 = .ok (.iload_n 1, 1) := by decide +kernel
theorem dX5_end_23 : decode cX5_end 23 = .ok (.putfield 50, 3) := by decide +kernel
theorem dX5_end_26 : decode cX5_end 26 = .ok (.iload_n 2, 1) := by decide +kernel
theorem dX5_end_27 : decode cX5_end 27 = .ok (.ireturn, 1) := by decide +kernel
theorem dX5_byteAt_0 : decode cX5_byteAt 0 = .ok (.iload_n 1, 1) := by decide +kernel
theorem dX5_byteAt_1 : decode cX5_byteAt 1 = .ok (.aload_n 0, 1) := by decide +kernel
theorem dX5_byteAt_2 : decode cX5_byteAt 2 = .ok (.getfield 50, 3) := by decide +kernel
theorem dX5_byteAt_5 : decode cX5_byteAt 5 = .ok (.if_icmp .ge 12, 3) := by decide +kernel
theorem dX5_byteAt_8 : decode cX5_byteAt 8 = .ok (.aload_n 0, 1) := by decide +kernel
theorem dX5_byteAt_9 : decode cX5_byteAt 9 = .ok (.getfield 16, 3) := by decide +kernel
theorem dX5_byteAt_12 : decode cX5_byteAt 12 = .ok (.iload_n 1, 1) := by decide +kernel
theorem dX5_byteAt_13 : decode cX5_byteAt 13 = .ok (.iaload, 1) := by decide +kernel
theorem dX5_byteAt_14 : decode cX5_byteAt 14 = .ok (.goto 5, 3) := by decide +kernel
theorem dX5_byteAt_17 : decode cX5_byteAt 17 = .ok (.bipush (-4), 2) := by decide +kernel
theorem dX5_byteAt_19 : decode cX5_byteAt 19 = .ok (.ireturn, 1) := by decide +kernel
theorem dX5_fails_0 : decode cX5_fails 0 = .ok (.aload_n 0, 1) := by decide +kernel
theorem dX5_fails_1 : decode cX5_fails 1 = .ok (.getfield 54, 3) := by decide +kernel
theorem dX5_fails_4 : decode cX5_fails 4 = .ok (.ifCond .ne 16, 3) := by decide +kernel
theorem dX5_fails_7 : decode cX5_fails 7 = .ok (.aload_n 0, 1) := by decide +kernel
theorem dX5_fails_8 : decode cX5_fails 8 = .ok (.iload_n 1, 1) := by decide +kernel
theorem dX5_fails_9 : decode cX5_fails 9 = .ok (.putfield 54, 3) := by decide +kernel
theorem dX5_fails_12 : decode cX5_fails 12 = .ok (.aload_n 0, 1) := by decide +kernel
theorem dX5_fails_13 : decode cX5_fails 13 = .ok (.aload_n 0, 1) := by decide +kernel
theorem dX5_fails_14 : decode cX5_fails 14 = .ok (.getfield 57, 3) := by decide +kernel
theorem dX5_fails_17 : decode cX5_fails 17 = .ok (.putfield 60, 3) := by decide +kernel
theorem dX5_fails_20 : decode cX5_fails 20 = .ok (.return_, 1) := by decide +kernel
theorem dX5_nameHere_0 : decode cX5_nameHere 0 = .ok (.iconst 0, 1) := by decide +kernel
theorem dX5_nameHere_1 : decode cX5_nameHere 1 = .ok (.istore_n 1, 1) := by decide +kernel
theorem dX5_nameHere_2 : decode cX5_nameHere 2 = .ok (.iload_n 1, 1) := by decide +kernel
theorem dX5_nameHere_3 : decode cX5_nameHere 3 = .ok (.bipush 7, 2) := by decide +kernel
theorem dX5_nameHere_5 : decode cX5_nameHere 5 = .ok (.if_icmp .ge 113, 3) := by decide +kernel
theorem dX5_nameHere_8 : decode cX5_nameHere 8 = .ok (.aload_n 0, 1) := by decide +kernel
theorem dX5_nameHere_9 : decode cX5_nameHere 9 = .ok (.getfield 63, 3) := by decide +kernel
theorem dX5_nameHere_12 : decode cX5_nameHere 12 = .ok (.iconst 1, 1) := by decide +kernel
theorem dX5_nameHere_13 : decode cX5_nameHere 13 = .ok (.if_icmp .ne 105, 3) := by decide +kernel
theorem dX5_nameHere_16 : decode cX5_nameHere 16 = .ok (.aload_n 0, 1) := by decide +kernel
theorem dX5_nameHere_17 : decode cX5_nameHere 17 = .ok (.getfield 66, 3) := by decide +kernel
theorem dX5_nameHere_20 : decode cX5_nameHere 20 = .ok (.aload_n 0, 1) := by decide +kernel
theorem dX5_nameHere_21 : decode cX5_nameHere 21 = .ok (.getfield 57, 3) := by decide +kernel
theorem dX5_nameHere_24 : decode cX5_nameHere 24 = .ok (.isub, 1) := by decide +kernel
theorem dX5_nameHere_25 : decode cX5_nameHere 25 = .ok (.aload_n 0, 1) := by decide +kernel
theorem dX5_nameHere_26 : decode cX5_nameHere 26 = .ok (.getfield 19, 3) := by decide +kernel
theorem dX5_nameHere_29 : decode cX5_nameHere 29 = .ok (.iload_n 1, 1) := by decide +kernel
theorem dX5_nameHere_30 : decode cX5_nameHere 30 = .ok (.iconst 1, 1) := by decide +kernel
theorem dX5_nameHere_31 : decode cX5_nameHere 31 = .ok (.iadd, 1) := by decide +kernel
theorem dX5_nameHere_32 : decode cX5_nameHere 32 = .ok (.iaload, 1) := by decide +kernel
theorem dX5_nameHere_33 : decode cX5_nameHere 33 = .ok (.aload_n 0, 1) := by decide +kernel
theorem dX5_nameHere_34 : decode cX5_nameHere 34 = .ok (.getfield 19, 3) := by decide +kernel
theorem dX5_nameHere_37 : decode cX5_nameHere 37 = .ok (.iload_n 1, 1) := by decide +kernel
theorem dX5_nameHere_38 : decode cX5_nameHere 38 = .ok (.iaload, 1) := by decide +kernel
theorem dX5_nameHere_39 : decode cX5_nameHere 39 = .ok (.isub, 1) := by decide +kernel
theorem dX5_nameHere_40 : decode cX5_nameHere 40 = .ok (.if_icmp .ne 7, 3) := by decide +kernel
theorem dX5_nameHere_43 : decode cX5_nameHere 43 = .ok (.iconst 1, 1) := by decide +kernel
theorem dX5_nameHere_44 : decode cX5_nameHere 44 = .ok (.goto 4, 3) := by decide +kernel
theorem dX5_nameHere_47 : decode cX5_nameHere 47 = .ok (.iconst 0, 1) := by decide +kernel
theorem dX5_nameHere_48 : decode cX5_nameHere 48 = .ok (.istore_n 2, 1) := by decide +kernel
theorem dX5_nameHere_49 : decode cX5_nameHere 49 = .ok (.iconst 0, 1) := by decide +kernel
theorem dX5_nameHere_50 : decode cX5_nameHere 50 = .ok (.istore_n 3, 1) := by decide +kernel
theorem dX5_nameHere_51 : decode cX5_nameHere 51 = .ok (.iload_n 2, 1) := by decide +kernel
theorem dX5_nameHere_52 : decode cX5_nameHere 52 = .ok (.ifCond .eq 54, 3) := by decide +kernel
theorem dX5_nameHere_55 : decode cX5_nameHere 55 = .ok (.iload_n 3, 1) := by decide +kernel
theorem dX5_nameHere_56 : decode cX5_nameHere 56 = .ok (.aload_n 0, 1) := by decide +kernel
theorem dX5_nameHere_57 : decode cX5_nameHere 57 = .ok (.getfield 66, 3) := by decide +kernel
theorem dX5_nameHere_60 : decode cX5_nameHere 60 = .ok (.aload_n 0, 1) := by decide +kernel
theorem dX5_nameHere_61 : decode cX5_nameHere 61 = .ok (.getfield 57, 3) := by decide +kernel
theorem dX5_nameHere_64 : decode cX5_nameHere 64 = .ok (.isub, 1) := by decide +kernel
theorem dX5_nameHere_65 : decode cX5_nameHere 65 = .ok (.if_icmp .ge 41, 3) := by decide +kernel
theorem dX5_nameHere_68 : decode cX5_nameHere 68 = .ok (.aload_n 0, 1) := by decide +kernel
theorem dX5_nameHere_69 : decode cX5_nameHere 69 = .ok (.aload_n 0, 1) := by decide +kernel
theorem dX5_nameHere_70 : decode cX5_nameHere 70 = .ok (.getfield 57, 3) := by decide +kernel
theorem dX5_nameHere_73 : decode cX5_nameHere 73 = .ok (.iload_n 3, 1) := by decide +kernel
theorem dX5_nameHere_74 : decode cX5_nameHere 74 = .ok (.iadd, 1) := by decide +kernel
theorem dX5_nameHere_75 : decode cX5_nameHere 75 = .ok (.invokevirtual 69, 3) := by decide +kernel
theorem dX5_nameHere_78 : decode cX5_nameHere 78 = .ok (.aload_n 0, 1) := by decide +kernel
theorem dX5_nameHere_79 : decode cX5_nameHere 79 = .ok (.getfield 22, 3) := by decide +kernel
theorem dX5_nameHere_82 : decode cX5_nameHere 82 = .ok (.aload_n 0, 1) := by decide +kernel
theorem dX5_nameHere_83 : decode cX5_nameHere 83 = .ok (.getfield 19, 3) := by decide +kernel
theorem dX5_nameHere_86 : decode cX5_nameHere 86 = .ok (.iload_n 1, 1) := by decide +kernel
theorem dX5_nameHere_87 : decode cX5_nameHere 87 = .ok (.iaload, 1) := by decide +kernel
theorem dX5_nameHere_88 : decode cX5_nameHere 88 = .ok (.iload_n 3, 1) := by decide +kernel
theorem dX5_nameHere_89 : decode cX5_nameHere 89 = .ok (.iadd, 1) := by decide +kernel
theorem dX5_nameHere_90 : decode cX5_nameHere 90 = .ok (.iaload, 1) := by decide +kernel
theorem dX5_nameHere_91 : decode cX5_nameHere 91 = .ok (.if_icmp .ne 7, 3) := by decide +kernel
theorem dX5_nameHere_94 : decode cX5_nameHere 94 = .ok (.iconst 1, 1) := by decide +kernel
theorem dX5_nameHere_95 : decode cX5_nameHere 95 = .ok (.goto 4, 3) := by decide +kernel
theorem dX5_nameHere_98 : decode cX5_nameHere 98 = .ok (.iconst 0, 1) := by decide +kernel
theorem dX5_nameHere_99 : decode cX5_nameHere 99 = .ok (.istore_n 2, 1) := by decide +kernel
theorem dX5_nameHere_100 : decode cX5_nameHere 100 = .ok (.iinc 3 1, 3) := by decide +kernel
theorem dX5_nameHere_103 : decode cX5_nameHere 103 = .ok (.goto (-52), 3) := by decide +kernel
theorem dX5_nameHere_106 : decode cX5_nameHere 106 = .ok (.iload_n 2, 1) := by decide +kernel
theorem dX5_nameHere_107 : decode cX5_nameHere 107 = .ok (.ifCond .eq 5, 3) := by decide +kernel
theorem dX5_nameHere_110 : decode cX5_nameHere 110 = .ok (.iload_n 1, 1) := by decide +kernel
theorem dX5_nameHere_111 : decode cX5_nameHere 111 = .ok (.ireturn, 1) := by decide +kernel
theorem dX5_nameHere_112 : decode cX5_nameHere 112 = .ok (.iinc 1 1, 3) := by decide +kernel
theorem dX5_nameHere_115 : decode cX5_nameHere 115 = .ok (.goto (-113), 3) := by decide +kernel
theorem dX5_nameHere_118 : decode cX5_nameHere 118 = .ok (.bipush (-4), 2) := by decide +kernel
theorem dX5_nameHere_120 : decode cX5_nameHere 120 = .ok (.ireturn, 1) := by decide +kernel
theorem dX5_step_0 : decode cX5_step 0 = .ok (.aload_n 0, 1) := by decide +kernel
theorem dX5_step_1 : decode cX5_step 1 = .ok (.getfield 54, 3) := by decide +kernel
theorem dX5_step_4 : decode cX5_step 4 = .ok (.ifCond .le 4, 3) := by decide +kernel
theorem dX5_step_7 : decode cX5_step 7 = .ok (.return_, 1) := by decide +kernel
theorem dX5_step_8 : decode cX5_step 8 = .ok (.aload_n 0, 1) := by decide +kernel
theorem dX5_step_9 : decode cX5_step 9 = .ok (.aload_n 0, 1) := by decide +kernel
theorem dX5_step_10 : decode cX5_step 10 = .ok (.getfield 66, 3) := by decide +kernel
theorem dX5_step_13 : decode cX5_step 13 = .ok (.invokevirtual 69, 3) := by decide +kernel
theorem dX5_step_16 : decode cX5_step 16 = .ok (.bipush 32, 2) := by decide +kernel
theorem dX5_step_18 : decode cX5_step 18 = .ok (.if_icmp .ne 16, 3) := by decide +kernel
theorem dX5_step_21 : decode cX5_step 21 = .ok (.aload_n 0, 1) := by decide +kernel
theorem dX5_step_22 : decode cX5_step 22 = .ok (.dup, 1) := by decide +kernel
theorem dX5_step_23 : decode cX5_step 23 = .ok (.getfield 66, 3) := by decide +kernel
theorem dX5_step_26 : decode cX5_step 26 = .ok (.iconst 1, 1) := by decide +kernel
theorem dX5_step_27 : decode cX5_step 27 = .ok (.iadd, 1) := by decide +kernel
theorem dX5_step_28 : decode cX5_step 28 = .ok (.putfield 66, 3) := by decide +kernel
theorem dX5_step_31 : decode cX5_step 31 = .ok (.goto (-23), 3) := by decide +kernel
theorem dX5_step_34 : decode cX5_step 34 = .ok (.aload_n 0, 1) := by decide +kernel
theorem dX5_step_35 : decode cX5_step 35 = .ok (.aload_n 0, 1) := by decide +kernel
theorem dX5_step_36 : decode cX5_step 36 = .ok (.getfield 66, 3) := by decide +kernel
theorem dX5_step_39 : decode cX5_step 39 = .ok (.putfield 57, 3) := by decide +kernel
theorem dX5_step_42 : decode cX5_step 42 = .ok (.aload_n 0, 1) := by decide +kernel
theorem dX5_step_43 : decode cX5_step 43 = .ok (.aload_n 0, 1) := by decide +kernel
theorem dX5_step_44 : decode cX5_step 44 = .ok (.getfield 66, 3) := by decide +kernel
theorem dX5_step_47 : decode cX5_step 47 = .ok (.invokevirtual 69, 3) := by decide +kernel
theorem dX5_step_50 : decode cX5_step 50 = .ok (.istore_n 1, 1) := by decide +kernel
theorem dX5_step_51 : decode cX5_step 51 = .ok (.aload_n 0, 1) := by decide +kernel
theorem dX5_step_52 : decode cX5_step 52 = .ok (.iconst 0, 1) := by decide +kernel
theorem dX5_step_53 : decode cX5_step 53 = .ok (.putfield 73, 3) := by decide +kernel
theorem dX5_step_56 : decode cX5_step 56 = .ok (.iload_n 1, 1) := by decide +kernel
theorem dX5_step_57 : decode cX5_step 57 = .ok (.bipush (-4), 2) := by decide +kernel
theorem dX5_step_59 : decode cX5_step 59 = .ok (.if_icmp .ne 11, 3) := by decide +kernel
theorem dX5_step_62 : decode cX5_step 62 = .ok (.aload_n 0, 1) := by decide +kernel
theorem dX5_step_63 : decode cX5_step 63 = .ok (.iconst 0, 1) := by decide +kernel
theorem dX5_step_64 : decode cX5_step 64 = .ok (.putfield 63, 3) := by decide +kernel
theorem dX5_step_67 : decode cX5_step 67 = .ok (.goto 202, 3) := by decide +kernel
theorem dX5_step_70 : decode cX5_step 70 = .ok (.iload_n 1, 1) := by decide +kernel
theorem dX5_step_71 : decode cX5_step 71 = .ok (.i2l, 1) := by decide +kernel
theorem dX5_step_72 : decode cX5_step 72 = .ok (.ldc2_w 76, 3) := by decide +kernel
theorem dX5_step_75 : decode cX5_step 75 = .ok (.ldc2_w 78, 3) := by decide +kernel
theorem dX5_step_78 : decode cX5_step 78 = .ok (.invokestatic 46, 3) := by decide +kernel
theorem dX5_step_81 : decode cX5_step 81 = .ok (.ifCond .eq 45, 3) := by decide +kernel
theorem dX5_step_84 : decode cX5_step 84 = .ok (.aload_n 0, 1) := by decide +kernel
theorem dX5_step_85 : decode cX5_step 85 = .ok (.aload_n 0, 1) := by decide +kernel
theorem dX5_step_86 : decode cX5_step 86 = .ok (.getfield 66, 3) := by decide +kernel
theorem dX5_step_89 : decode cX5_step 89 = .ok (.invokevirtual 69, 3) := by decide +kernel
theorem dX5_step_92 : decode cX5_step 92 = .ok (.i2l, 1) := by decide +kernel
theorem dX5_step_93 : decode cX5_step 93 = .ok (.ldc2_w 76, 3) := by decide +kernel
theorem dX5_step_96 : decode cX5_step 96 = .ok (.ldc2_w 78, 3) := by decide +kernel
theorem dX5_step_99 : decode cX5_step 99 = .ok (.invokestatic 46, 3) := by decide +kernel
theorem dX5_step_102 : decode cX5_step 102 = .ok (.ifCond .eq 16, 3) := by decide +kernel
theorem dX5_step_105 : decode cX5_step 105 = .ok (.aload_n 0, 1) := by decide +kernel
theorem dX5_step_106 : decode cX5_step 106 = .ok (.dup, 1) := by decide +kernel
theorem dX5_step_107 : decode cX5_step 107 = .ok (.getfield 66, 3) := by decide +kernel
theorem dX5_step_110 : decode cX5_step 110 = .ok (.iconst 1, 1) := by decide +kernel
theorem dX5_step_111 : decode cX5_step 111 = .ok (.iadd, 1) := by decide +kernel
theorem dX5_step_112 : decode cX5_step 112 = .ok (.putfield 66, 3) := by decide +kernel
theorem dX5_step_115 : decode cX5_step 115 = .ok (.goto (-31), 3) := by decide +kernel
theorem dX5_step_118 : decode cX5_step 118 = .ok (.aload_n 0, 1) := by decide +kernel
theorem dX5_step_119 : decode cX5_step 119 = .ok (.iconst 1, 1) := by decide +kernel
theorem dX5_step_120 : decode cX5_step 120 = .ok (.putfield 63, 3) := by decide +kernel
theorem dX5_step_123 : decode cX5_step 123 = .ok (.goto 146, 3) := by decide +kernel
theorem dX5_step_126 : decode cX5_step 126 = .ok (.iload_n 1, 1) := by decide +kernel
theorem dX5_step_127 : decode cX5_step 127 = .ok (.i2l, 1) := by decide +kernel
theorem dX5_step_128 : decode cX5_step 128 = .ok (.ldc2_w 80, 3) := by decide +kernel
theorem dX5_step_131 : decode cX5_step 131 = .ok (.ldc2_w 82, 3) := by decide +kernel
theorem dX5_step_134 : decode cX5_step 134 = .ok (.invokestatic 46, 3) := by decide +kernel
theorem dX5_step_137 : decode cX5_step 137 = .ok (.ifCond .eq 106, 3) := by decide +kernel
theorem dX5_step_140 : decode cX5_step 140 = .ok (.aload_n 0, 1) := by decide +kernel
theorem dX5_step_141 : decode cX5_step 141 = .ok (.aload_n 0, 1) := by decide +kernel
theorem dX5_step_142 : decode cX5_step 142 = .ok (.getfield 66, 3) := by decide +kernel
theorem dX5_step_145 : decode cX5_step 145 = .ok (.invokevirtual 69, 3) := by decide +kernel
theorem dX5_step_148 : decode cX5_step 148 = .ok (.i2l, 1) := by decide +kernel
theorem dX5_step_149 : decode cX5_step 149 = .ok (.ldc2_w 80, 3) := by decide +kernel
theorem dX5_step_152 : decode cX5_step 152 = .ok (.ldc2_w 82, 3) := by decide +kernel
theorem dX5_step_155 : decode cX5_step 155 = .ok (.invokestatic 46, 3) := by decide +kernel
theorem dX5_step_158 : decode cX5_step 158 = .ok (.ifCond .eq 59, 3) := by decide +kernel
theorem dX5_step_161 : decode cX5_step 161 = .ok (.aload_n 0, 1) := by decide +kernel
theorem dX5_step_162 : decode cX5_step 162 = .ok (.aload_n 0, 1) := by decide +kernel
theorem dX5_step_163 : decode cX5_step 163 = .ok (.getfield 66, 3) := by decide +kernel
theorem dX5_step_166 : decode cX5_step 166 = .ok (.aload_n 0, 1) := by decide +kernel
theorem dX5_step_167 : decode cX5_step 167 = .ok (.getfield 57, 3) := by decide +kernel
theorem dX5_step_170 : decode cX5_step 170 = .ok (.isub, 1) := by decide +kernel
theorem dX5_step_171 : decode cX5_step 171 = .ok (.iconst 2, 1) := by decide +kernel
theorem dX5_step_172 : decode cX5_step 172 = .ok (.if_icmp .ge 25, 3) := by decide +kernel
theorem dX5_step_175 : decode cX5_step 175 = .ok (.bipush 10, 2) := by decide +kernel
theorem dX5_step_177 : decode cX5_step 177 = .ok (.aload_n 0, 1) := by decide +kernel
theorem dX5_step_178 : decode cX5_step 178 = .ok (.getfield 73, 3) := by decide +kernel
theorem dX5_step_181 : decode cX5_step 181 = .ok (.imul, 1) := by decide +kernel
theorem dX5_step_182 : decode cX5_step 182 = .ok (.aload_n 0, 1) := by decide +kernel
theorem dX5_step_183 : decode cX5_step 183 = .ok (.aload_n 0, 1) := by decide +kernel
theorem dX5_step_184 : decode cX5_step 184 = .ok (.getfield 66, 3) := by decide +kernel
theorem dX5_step_187 : decode cX5_step 187 = .ok (.invokevirtual 69, 3) := by decide +kernel
theorem dX5_step_190 : decode cX5_step 190 = .ok (.iadd, 1) := by decide +kernel
theorem dX5_step_191 : decode cX5_step 191 = .ok (.bipush 48, 2) := by decide +kernel
theorem dX5_step_193 : decode cX5_step 193 = .ok (.isub, 1) := by decide +kernel
theorem dX5_step_194 : decode cX5_step 194 = .ok (.goto 7, 3) := by decide +kernel
theorem dX5_step_197 : decode cX5_step 197 = .ok (.aload_n 0, 1) := by decide +kernel
theorem dX5_step_198 : decode cX5_step 198 = .ok (.getfield 73, 3) := by decide +kernel
theorem dX5_step_201 : decode cX5_step 201 = .ok (.putfield 73, 3) := by decide +kernel
theorem dX5_step_204 : decode cX5_step 204 = .ok (.aload_n 0, 1) := by decide +kernel
theorem dX5_step_205 : decode cX5_step 205 = .ok (.dup, 1) := by decide +kernel
theorem dX5_step_206 : decode cX5_step 206 = .ok (.getfield 66, 3) := by decide +kernel
theorem dX5_step_209 : decode cX5_step 209 = .ok (.iconst 1, 1) := by decide +kernel
theorem dX5_step_210 : decode cX5_step 210 = .ok (.iadd, 1) := by decide +kernel
theorem dX5_step_211 : decode cX5_step 211 = .ok (.putfield 66, 3) := by decide +kernel
theorem dX5_step_214 : decode cX5_step 214 = .ok (.goto (-74), 3) := by decide +kernel
theorem dX5_step_217 : decode cX5_step 217 = .ok (.aload_n 0, 1) := by decide +kernel
theorem dX5_step_218 : decode cX5_step 218 = .ok (.iconst 2, 1) := by decide +kernel
theorem dX5_step_219 : decode cX5_step 219 = .ok (.putfield 63, 3) := by decide +kernel
theorem dX5_step_222 : decode cX5_step 222 = .ok (.aload_n 0, 1) := by decide +kernel
theorem dX5_step_223 : decode cX5_step 223 = .ok (.getfield 66, 3) := by decide +kernel
theorem dX5_step_226 : decode cX5_step 226 = .ok (.aload_n 0, 1) := by decide +kernel
theorem dX5_step_227 : decode cX5_step 227 = .ok (.getfield 57, 3) := by decide +kernel
theorem dX5_step_230 : decode cX5_step 230 = .ok (.isub, 1) := by decide +kernel
theorem dX5_step_231 : decode cX5_step 231 = .ok (.iconst 2, 1) := by decide +kernel
theorem dX5_step_232 : decode cX5_step 232 = .ok (.if_icmp .le 37, 3) := by decide +kernel
theorem dX5_step_235 : decode cX5_step 235 = .ok (.aload_n 0, 1) := by decide +kernel
theorem dX5_step_236 : decode cX5_step 236 = .ok (.iconst 1, 1) := by decide +kernel
theorem dX5_step_237 : decode cX5_step 237 = .ok (.invokevirtual 84, 3) := by decide +kernel
theorem dX5_step_240 : decode cX5_step 240 = .ok (.goto 29, 3) := by decide +kernel
theorem dX5_step_243 : decode cX5_step 243 = .ok (.aload_n 0, 1) := by decide +kernel
theorem dX5_step_244 : decode cX5_step 244 = .ok (.iconst 3, 1) := by decide +kernel
theorem dX5_step_245 : decode cX5_step 245 = .ok (.putfield 63, 3) := by decide +kernel
theorem dX5_step_248 : decode cX5_step 248 = .ok (.aload_n 0, 1) := by decide +kernel
theorem dX5_step_249 : decode cX5_step 249 = .ok (.dup, 1) := by decide +kernel
theorem dX5_step_250 : decode cX5_step 250 = .ok (.getfield 66, 3) := by decide +kernel
theorem dX5_step_253 : decode cX5_step 253 = .ok (.iconst 1, 1) := by decide +kernel
theorem dX5_step_254 : decode cX5_step 254 = .ok (.iadd, 1) := by decide +kernel
theorem dX5_step_255 : decode cX5_step 255 = .ok (.putfield 66, 3) := by decide +kernel
theorem dX5_step_258 : decode cX5_step 258 = .ok (.iload_n 1, 1) := by decide +kernel
theorem dX5_step_259 : decode cX5_step 259 = .ok (.bipush 59, 2) := by decide +kernel
theorem dX5_step_261 : decode cX5_step 261 = .ok (.if_icmp .eq 8, 3) := by decide +kernel
theorem dX5_step_264 : decode cX5_step 264 = .ok (.aload_n 0, 1) := by decide +kernel
theorem dX5_step_265 : decode cX5_step 265 = .ok (.iconst 1, 1) := by decide +kernel
theorem dX5_step_266 : decode cX5_step 266 = .ok (.invokevirtual 84, 3) := by decide +kernel
theorem dX5_step_269 : decode cX5_step 269 = .ok (.return_, 1) := by decide +kernel
theorem dX5_number_0 : decode cX5_number 0 = .ok (.aload_n 0, 1) := by decide +kernel
theorem dX5_number_1 : decode cX5_number 1 = .ok (.getfield 54, 3) := by decide +kernel
theorem dX5_number_4 : decode cX5_number 4 = .ok (.ifCond .ne 16, 3) := by decide +kernel
theorem dX5_number_7 : decode cX5_number 7 = .ok (.aload_n 0, 1) := by decide +kernel
theorem dX5_number_8 : decode cX5_number 8 = .ok (.getfield 63, 3) := by decide +kernel
theorem dX5_number_11 : decode cX5_number 11 = .ok (.iconst 2, 1) := by decide +kernel
theorem dX5_number_12 : decode cX5_number 12 = .ok (.if_icmp .eq 8, 3) := by decide +kernel
theorem dX5_number_15 : decode cX5_number 15 = .ok (.aload_n 0, 1) := by decide +kernel
theorem dX5_number_16 : decode cX5_number 16 = .ok (.iconst 2, 1) := by decide +kernel
theorem dX5_number_17 : decode cX5_number 17 = .ok (.invokevirtual 84, 3) := by decide +kernel
theorem dX5_number_20 : decode cX5_number 20 = .ok (.aload_n 0, 1) := by decide +kernel
theorem dX5_number_21 : decode cX5_number 21 = .ok (.getfield 54, 3) := by decide +kernel
theorem dX5_number_24 : decode cX5_number 24 = .ok (.ifCond .ne 23, 3) := by decide +kernel
theorem dX5_number_27 : decode cX5_number 27 = .ok (.aload_n 0, 1) := by decide +kernel
theorem dX5_number_28 : decode cX5_number 28 = .ok (.getfield 73, 3) := by decide +kernel
theorem dX5_number_31 : decode cX5_number 31 = .ok (.i2l, 1) := by decide +kernel
theorem dX5_number_32 : decode cX5_number 32 = .ok (.iload_n 1, 1) := by decide +kernel
theorem dX5_number_33 : decode cX5_number 33 = .ok (.i2l, 1) := by decide +kernel
theorem dX5_number_34 : decode cX5_number 34 = .ok (.iload_n 2, 1) := by decide +kernel
theorem dX5_number_35 : decode cX5_number 35 = .ok (.i2l, 1) := by decide +kernel
theorem dX5_number_36 : decode cX5_number 36 = .ok (.invokestatic 46, 3) := by decide +kernel
theorem dX5_number_39 : decode cX5_number 39 = .ok (.ifCond .ne 8, 3) := by decide +kernel
theorem dX5_number_42 : decode cX5_number 42 = .ok (.aload_n 0, 1) := by decide +kernel
theorem dX5_number_43 : decode cX5_number 43 = .ok (.iconst 3, 1) := by decide +kernel
theorem dX5_number_44 : decode cX5_number 44 = .ok (.invokevirtual 84, 3) := by decide +kernel
theorem dX5_number_47 : decode cX5_number 47 = .ok (.aload_n 0, 1) := by decide +kernel
theorem dX5_number_48 : decode cX5_number 48 = .ok (.getfield 54, 3) := by decide +kernel
theorem dX5_number_51 : decode cX5_number 51 = .ok (.ifCond .ne 10, 3) := by decide +kernel
theorem dX5_number_54 : decode cX5_number 54 = .ok (.aload_n 0, 1) := by decide +kernel
theorem dX5_number_55 : decode cX5_number 55 = .ok (.getfield 73, 3) := by decide +kernel
theorem dX5_number_58 : decode cX5_number 58 = .ok (.goto 4, 3) := by decide +kernel
theorem dX5_number_61 : decode cX5_number 61 = .ok (.iload_n 1, 1) := by decide +kernel
theorem dX5_number_62 : decode cX5_number 62 = .ok (.istore_n 3, 1) := by decide +kernel
theorem dX5_number_63 : decode cX5_number 63 = .ok (.aload_n 0, 1) := by decide +kernel
theorem dX5_number_64 : decode cX5_number 64 = .ok (.invokevirtual 88, 3) := by decide +kernel
theorem dX5_number_67 : decode cX5_number 67 = .ok (.iload_n 3, 1) := by decide +kernel
theorem dX5_number_68 : decode cX5_number 68 = .ok (.ireturn, 1) := by decide +kernel
theorem dX5_readTrust_0 : decode cX5_readTrust 0 = .ok (.aload_n 0, 1) := by decide +kernel
theorem dX5_readTrust_1 : decode cX5_readTrust 1 = .ok (.getfield 54, 3) := by decide +kernel
theorem dX5_readTrust_4 : decode cX5_readTrust 4 = .ok (.ifCond .ne 46, 3) := by decide +kernel
theorem dX5_readTrust_7 : decode cX5_readTrust 7 = .ok (.aload_n 0, 1) := by decide +kernel
theorem dX5_readTrust_8 : decode cX5_readTrust 8 = .ok (.getfield 63, 3) := by decide +kernel
theorem dX5_readTrust_11 : decode cX5_readTrust 11 = .ok (.iconst 2, 1) := by decide +kernel
theorem dX5_readTrust_12 : decode cX5_readTrust 12 = .ok (.if_icmp .ne 38, 3) := by decide +kernel
theorem dX5_readTrust_15 : decode cX5_readTrust 15 = .ok (.aload_n 0, 1) := by decide +kernel
theorem dX5_readTrust_16 : decode cX5_readTrust 16 = .ok (.getfield 73, 3) := by decide +kernel
theorem dX5_readTrust_19 : decode cX5_readTrust 19 = .ok (.i2l, 1) := by decide +kernel
theorem dX5_readTrust_20 : decode cX5_readTrust 20 = .ok (.lconst 0, 1) := by decide +kernel
theorem dX5_readTrust_21 : decode cX5_readTrust 21 = .ok (.ldc2_w 91, 3) := by decide +kernel
theorem dX5_readTrust_24 : decode cX5_readTrust 24 = .ok (.invokestatic 46, 3) := by decide +kernel
theorem dX5_readTrust_27 : decode cX5_readTrust 27 = .ok (.ifCond .eq 23, 3) := by decide +kernel
theorem dX5_readTrust_30 : decode cX5_readTrust 30 = .ok (.aload_n 0, 1) := by decide +kernel
theorem dX5_readTrust_31 : decode cX5_readTrust 31 = .ok (.getfield 93, 3) := by decide +kernel
theorem dX5_readTrust_34 : decode cX5_readTrust 34 = .ok (.aload_n 0, 1) := by decide +kernel
theorem dX5_readTrust_35 : decode cX5_readTrust 35 = .ok (.getfield 73, 3) := by decide +kernel
theorem dX5_readTrust_38 : decode cX5_readTrust 38 = .ok (.ishr, 1) := by decide +kernel
theorem dX5_readTrust_39 : decode cX5_readTrust 39 = .ok (.iconst 1, 1) := by decide +kernel
theorem dX5_readTrust_40 : decode cX5_readTrust 40 = .ok (.iand, 1) := by decide +kernel
theorem dX5_readTrust_41 : decode cX5_readTrust 41 = .ok (.iconst 1, 1) := by decide +kernel
theorem dX5_readTrust_42 : decode cX5_readTrust 42 = .ok (.if_icmp .ne 8, 3) := by decide +kernel
theorem dX5_readTrust_45 : decode cX5_readTrust 45 = .ok (.aload_n 0, 1) := by decide +kernel
theorem dX5_readTrust_46 : decode cX5_readTrust 46 = .ok (.iconst 4, 1) := by decide +kernel
theorem dX5_readTrust_47 : decode cX5_readTrust 47 = .ok (.invokevirtual 84, 3) := by decide +kernel
theorem dX5_readTrust_50 : decode cX5_readTrust 50 = .ok (.aload_n 0, 1) := by decide +kernel
theorem dX5_readTrust_51 : decode cX5_readTrust 51 = .ok (.iconst 0, 1) := by decide +kernel
theorem dX5_readTrust_52 : decode cX5_readTrust 52 = .ok (.iconst 3, 1) := by decide +kernel
theorem dX5_readTrust_53 : decode cX5_readTrust 53 = .ok (.invokevirtual 96, 3) := by decide +kernel
theorem dX5_readTrust_56 : decode cX5_readTrust 56 = .ok (.istore_n 1, 1) := by decide +kernel
theorem dX5_readTrust_57 : decode cX5_readTrust 57 = .ok (.aload_n 0, 1) := by decide +kernel
theorem dX5_readTrust_58 : decode cX5_readTrust 58 = .ok (.dup, 1) := by decide +kernel
theorem dX5_readTrust_59 : decode cX5_readTrust 59 = .ok (.getfield 93, 3) := by decide +kernel
theorem dX5_readTrust_62 : decode cX5_readTrust 62 = .ok (.iconst 1, 1) := by decide +kernel
theorem dX5_readTrust_63 : decode cX5_readTrust 63 = .ok (.iload_n 1, 1) := by decide +kernel
theorem dX5_readTrust_64 : decode cX5_readTrust 64 = .ok (.ishl, 1) := by decide +kernel
theorem dX5_readTrust_65 : decode cX5_readTrust 65 = .ok (.ior, 1) := by decide +kernel
theorem dX5_readTrust_66 : decode cX5_readTrust 66 = .ok (.putfield 93, 3) := by decide +kernel
theorem dX5_readTrust_69 : decode cX5_readTrust 69 = .ok (.aload_n 0, 1) := by decide +kernel
theorem dX5_readTrust_70 : decode cX5_readTrust 70 = .ok (.getfield 13, 3) := by decide +kernel
theorem dX5_readTrust_73 : decode cX5_readTrust 73 = .ok (.bipush 16, 2) := by decide +kernel
theorem dX5_readTrust_75 : decode cX5_readTrust 75 = .ok (.iload_n 1, 1) := by decide +kernel
theorem dX5_readTrust_76 : decode cX5_readTrust 76 = .ok (.iadd, 1) := by decide +kernel
theorem dX5_readTrust_77 : decode cX5_readTrust 77 = .ok (.aload_n 0, 1) := by decide +kernel
theorem dX5_readTrust_78 : decode cX5_readTrust 78 = .ok (.iconst 0, 1) := by decide +kernel
theorem dX5_readTrust_79 : decode cX5_readTrust 79 = .ok (.bipush 9, 2) := by decide +kernel
theorem dX5_readTrust_81 : decode cX5_readTrust 81 = .ok (.invokevirtual 96, 3) := by decide +kernel
theorem dX5_readTrust_84 : decode cX5_readTrust 84 = .ok (.iconst 1, 1) := by decide +kernel
theorem dX5_readTrust_85 : decode cX5_readTrust 85 = .ok (.isub, 1) := by decide +kernel
theorem dX5_readTrust_86 : decode cX5_readTrust 86 = .ok (.iastore, 1) := by decide +kernel
theorem dX5_readTrust_87 : decode cX5_readTrust 87 = .ok (.return_, 1) := by decide +kernel
theorem dX5_readReport_0 : decode cX5_readReport 0 = .ok (.aload_n 0, 1) := by decide +kernel
theorem dX5_readReport_1 : decode cX5_readReport 1 = .ok (.getfield 13, 3) := by decide +kernel
theorem dX5_readReport_4 : decode cX5_readReport 4 = .ok (.bipush 52, 2) := by decide +kernel
theorem dX5_readReport_6 : decode cX5_readReport 6 = .ok (.iaload, 1) := by decide +kernel
theorem dX5_readReport_7 : decode cX5_readReport 7 = .ok (.istore_n 1, 1) := by decide +kernel
theorem dX5_readReport_8 : decode cX5_readReport 8 = .ok (.aload_n 0, 1) := by decide +kernel
theorem dX5_readReport_9 : decode cX5_readReport 9 = .ok (.getfield 13, 3) := by decide +kernel
theorem dX5_readReport_12 : decode cX5_readReport 12 = .ok (.bipush 20, 2) := by decide +kernel
theorem dX5_readReport_14 : decode cX5_readReport 14 = .ok (.iload_n 1, 1) := by decide +kernel
theorem dX5_readReport_15 : decode cX5_readReport 15 = .ok (.iadd, 1) := by decide +kernel
theorem dX5_readReport_16 : decode cX5_readReport 16 = .ok (.aload_n 0, 1) := by decide +kernel
theorem dX5_readReport_17 : decode cX5_readReport 17 = .ok (.iconst 0, 1) := by decide +kernel
theorem dX5_readReport_18 : decode cX5_readReport 18 = .ok (.bipush 99, 2) := by decide +kernel
theorem dX5_readReport_20 : decode cX5_readReport 20 = .ok (.invokevirtual 96, 3) := by decide +kernel
theorem dX5_readReport_23 : decode cX5_readReport 23 = .ok (.iastore, 1) := by decide +kernel
theorem dX5_readReport_24 : decode cX5_readReport 24 = .ok (.aload_n 0, 1) := by decide +kernel
theorem dX5_readReport_25 : decode cX5_readReport 25 = .ok (.getfield 13, 3) := by decide +kernel
theorem dX5_readReport_28 : decode cX5_readReport 28 = .ok (.bipush 28, 2) := by decide +kernel
theorem dX5_readReport_30 : decode cX5_readReport 30 = .ok (.iload_n 1, 1) := by decide +kernel
theorem dX5_readReport_31 : decode cX5_readReport 31 = .ok (.iadd, 1) := by decide +kernel
theorem dX5_readReport_32 : decode cX5_readReport 32 = .ok (.aload_n 0, 1) := by decide +kernel
theorem dX5_readReport_33 : decode cX5_readReport 33 = .ok (.iconst 0, 1) := by decide +kernel
theorem dX5_readReport_34 : decode cX5_readReport 34 = .ok (.iconst 3, 1) := by decide +kernel
theorem dX5_readReport_35 : decode cX5_readReport 35 = .ok (.invokevirtual 96, 3) := by decide +kernel
theorem dX5_readReport_38 : decode cX5_readReport 38 = .ok (.iastore, 1) := by decide +kernel
theorem dX5_readReport_39 : decode cX5_readReport 39 = .ok (.aload_n 0, 1) := by decide +kernel
theorem dX5_readReport_40 : decode cX5_readReport 40 = .ok (.iconst 0, 1) := by decide +kernel
theorem dX5_readReport_41 : decode cX5_readReport 41 = .ok (.iconst 4, 1) := by decide +kernel
theorem dX5_readReport_42 : decode cX5_readReport 42 = .ok (.invokevirtual 96, 3) := by decide +kernel
theorem dX5_readReport_45 : decode cX5_readReport 45 = .ok (.istore_n 2, 1) := by decide +kernel
theorem dX5_readReport_46 : decode cX5_readReport 46 = .ok (.aload_n 0, 1) := by decide +kernel
theorem dX5_readReport_47 : decode cX5_readReport 47 = .ok (.iload_n 2, 1) := by decide +kernel
theorem dX5_readReport_48 : decode cX5_readReport 48 = .ok (.aload_n 0, 1) := by decide +kernel
theorem dX5_readReport_49 : decode cX5_readReport 49 = .ok (.getfield 100, 3) := by decide +kernel
theorem dX5_readReport_52 : decode cX5_readReport 52 = .ok (.if_icmp .le 7, 3) := by decide +kernel
theorem dX5_readReport_55 : decode cX5_readReport 55 = .ok (.iload_n 2, 1) := by decide +kernel
theorem dX5_readReport_56 : decode cX5_readReport 56 = .ok (.goto 7, 3) := by decide +kernel
theorem dX5_readReport_59 : decode cX5_readReport 59 = .ok (.aload_n 0, 1) := by decide +kernel
theorem dX5_readReport_60 : decode cX5_readReport 60 = .ok (.getfield 100, 3) := by decide +kernel
theorem dX5_readReport_63 : decode cX5_readReport 63 = .ok (.putfield 100, 3) := by decide +kernel
theorem dX5_readReport_66 : decode cX5_readReport 66 = .ok (.aload_n 0, 1) := by decide +kernel
theorem dX5_readReport_67 : decode cX5_readReport 67 = .ok (.getfield 13, 3) := by decide +kernel
theorem dX5_readReport_70 : decode cX5_readReport 70 = .ok (.bipush 36, 2) := by decide +kernel
theorem dX5_readReport_72 : decode cX5_readReport 72 = .ok (.iload_n 1, 1) := by decide +kernel
theorem dX5_readReport_73 : decode cX5_readReport 73 = .ok (.iadd, 1) := by decide +kernel
theorem dX5_readReport_74 : decode cX5_readReport 74 = .ok (.iload_n 2, 1) := by decide +kernel
theorem dX5_readReport_75 : decode cX5_readReport 75 = .ok (.iastore, 1) := by decide +kernel
theorem dX5_readReport_76 : decode cX5_readReport 76 = .ok (.aload_n 0, 1) := by decide +kernel
theorem dX5_readReport_77 : decode cX5_readReport 77 = .ok (.getfield 13, 3) := by decide +kernel
theorem dX5_readReport_80 : decode cX5_readReport 80 = .ok (.bipush 44, 2) := by decide +kernel
theorem dX5_readReport_82 : decode cX5_readReport 82 = .ok (.iload_n 1, 1) := by decide +kernel
theorem dX5_readReport_83 : decode cX5_readReport 83 = .ok (.iadd, 1) := by decide +kernel
theorem dX5_readReport_84 : decode cX5_readReport 84 = .ok (.aload_n 0, 1) := by decide +kernel
theorem dX5_readReport_85 : decode cX5_readReport 85 = .ok (.iconst 0, 1) := by decide +kernel
theorem dX5_readReport_86 : decode cX5_readReport 86 = .ok (.iconst 3, 1) := by decide +kernel
theorem dX5_readReport_87 : decode cX5_readReport 87 = .ok (.invokevirtual 96, 3) := by decide +kernel
theorem dX5_readReport_90 : decode cX5_readReport 90 = .ok (.iastore, 1) := by decide +kernel
theorem dX5_readReport_91 : decode cX5_readReport 91 = .ok (.aload_n 0, 1) := by decide +kernel
theorem dX5_readReport_92 : decode cX5_readReport 92 = .ok (.getfield 13, 3) := by decide +kernel
theorem dX5_readReport_95 : decode cX5_readReport 95 = .ok (.bipush 52, 2) := by decide +kernel
theorem dX5_readReport_97 : decode cX5_readReport 97 = .ok (.dup2, 1) := by decide +kernel
theorem dX5_readReport_98 : decode cX5_readReport 98 = .ok (.iaload, 1) := by decide +kernel
theorem dX5_readReport_99 : decode cX5_readReport 99 = .ok (.iconst 1, 1) := by decide +kernel
theorem dX5_readReport_100 : decode cX5_readReport 100 = .ok (.iadd, 1) := by decide +kernel
theorem dX5_readReport_101 : decode cX5_readReport 101 = .ok (.iastore, 1) := by decide +kernel
theorem dX5_readReport_102 : decode cX5_readReport 102 = .ok (.return_, 1) := by decide +kernel
theorem dX5_readMore_0 : decode cX5_readMore 0 = .ok (.iload_n 1, 1) := by decide +kernel
theorem dX5_readMore_1 : decode cX5_readMore 1 = .ok (.iconst 3, 1) := by decide +kernel
theorem dX5_readMore_2 : decode cX5_readMore 2 = .ok (.if_icmp .gt 63, 3) := by decide +kernel
theorem dX5_readMore_5 : decode cX5_readMore 5 = .ok (.aload_n 0, 1) := by decide +kernel
theorem dX5_readMore_6 : decode cX5_readMore 6 = .ok (.getfield 13, 3) := by decide +kernel
theorem dX5_readMore_9 : decode cX5_readMore 9 = .ok (.aload_n 0, 1) := by decide +kernel
theorem dX5_readMore_10 : decode cX5_readMore 10 = .ok (.getfield 103, 3) := by decide +kernel
theorem dX5_readMore_13 : decode cX5_readMore 13 = .ok (.iload_n 1, 1) := by decide +kernel
theorem dX5_readMore_14 : decode cX5_readMore 14 = .ok (.iastore, 1) := by decide +kernel
theorem dX5_readMore_15 : decode cX5_readMore 15 = .ok (.aload_n 0, 1) := by decide +kernel
theorem dX5_readMore_16 : decode cX5_readMore 16 = .ok (.getfield 13, 3) := by decide +kernel
theorem dX5_readMore_19 : decode cX5_readMore 19 = .ok (.iconst 5, 1) := by decide +kernel
theorem dX5_readMore_20 : decode cX5_readMore 20 = .ok (.aload_n 0, 1) := by decide +kernel
theorem dX5_readMore_21 : decode cX5_readMore 21 = .ok (.getfield 103, 3) := by decide +kernel
theorem dX5_readMore_24 : decode cX5_readMore 24 = .ok (.iadd, 1) := by decide +kernel
theorem dX5_readMore_25 : decode cX5_readMore 25 = .ok (.aload_n 0, 1) := by decide +kernel
theorem dX5_readMore_26 : decode cX5_readMore 26 = .ok (.iconst 0, 1) := by decide +kernel
theorem dX5_readMore_27 : decode cX5_readMore 27 = .ok (.bipush 15, 2) := by decide +kernel
theorem dX5_readMore_29 : decode cX5_readMore 29 = .ok (.invokevirtual 96, 3) := by decide +kernel
theorem dX5_readMore_32 : decode cX5_readMore 32 = .ok (.iastore, 1) := by decide +kernel
theorem dX5_readMore_33 : decode cX5_readMore 33 = .ok (.aload_n 0, 1) := by decide +kernel
theorem dX5_readMore_34 : decode cX5_readMore 34 = .ok (.getfield 13, 3) := by decide +kernel
theorem dX5_readMore_37 : decode cX5_readMore 37 = .ok (.bipush 10, 2) := by decide +kernel
theorem dX5_readMore_39 : decode cX5_readMore 39 = .ok (.aload_n 0, 1) := by decide +kernel
theorem dX5_readMore_40 : decode cX5_readMore 40 = .ok (.getfield 103, 3) := by decide +kernel
theorem dX5_readMore_43 : decode cX5_readMore 43 = .ok (.iadd, 1) := by decide +kernel
theorem dX5_readMore_44 : decode cX5_readMore 44 = .ok (.aload_n 0, 1) := by decide +kernel
theorem dX5_readMore_45 : decode cX5_readMore 45 = .ok (.iconst 1, 1) := by decide +kernel
theorem dX5_readMore_46 : decode cX5_readMore 46 = .ok (.bipush 99, 2) := by decide +kernel
theorem dX5_readMore_48 : decode cX5_readMore 48 = .ok (.invokevirtual 96, 3) := by decide +kernel
theorem dX5_readMore_51 : decode cX5_readMore 51 = .ok (.iastore, 1) := by decide +kernel
theorem dX5_readMore_52 : decode cX5_readMore 52 = .ok (.aload_n 0, 1) := by decide +kernel
theorem dX5_readMore_53 : decode cX5_readMore 53 = .ok (.dup, 1) := by decide +kernel
theorem dX5_readMore_54 : decode cX5_readMore 54 = .ok (.getfield 103, 3) := by decide +kernel
theorem dX5_readMore_57 : decode cX5_readMore 57 = .ok (.iconst 1, 1) := by decide +kernel
theorem dX5_readMore_58 : decode cX5_readMore 58 = .ok (.iadd, 1) := by decide +kernel
theorem dX5_readMore_59 : decode cX5_readMore 59 = .ok (.putfield 103, 3) := by decide +kernel
theorem dX5_readMore_62 : decode cX5_readMore 62 = .ok (.goto 44, 3) := by decide +kernel
theorem dX5_readMore_65 : decode cX5_readMore 65 = .ok (.iload_n 1, 1) := by decide +kernel
theorem dX5_readMore_66 : decode cX5_readMore 66 = .ok (.iconst 4, 1) := by decide +kernel
theorem dX5_readMore_67 : decode cX5_readMore 67 = .ok (.if_icmp .ne 10, 3) := by decide +kernel
theorem dX5_readMore_70 : decode cX5_readMore 70 = .ok (.aload_n 0, 1) := by decide +kernel
theorem dX5_readMore_71 : decode cX5_readMore 71 = .ok (.invokevirtual 106, 3) := by decide +kernel
theorem dX5_readMore_74 : decode cX5_readMore 74 = .ok (.goto 32, 3) := by decide +kernel
theorem dX5_readMore_77 : decode cX5_readMore 77 = .ok (.iload_n 1, 1) := by decide +kernel
theorem dX5_readMore_78 : decode cX5_readMore 78 = .ok (.iconst 5, 1) := by decide +kernel
theorem dX5_readMore_79 : decode cX5_readMore 79 = .ok (.if_icmp .ne 10, 3) := by decide +kernel
theorem dX5_readMore_82 : decode cX5_readMore 82 = .ok (.aload_n 0, 1) := by decide +kernel
theorem dX5_readMore_83 : decode cX5_readMore 83 = .ok (.invokevirtual 109, 3) := by decide +kernel
theorem dX5_readMore_86 : decode cX5_readMore 86 = .ok (.goto 20, 3) := by decide +kernel
theorem dX5_readMore_89 : decode cX5_readMore 89 = .ok (.aload_n 0, 1) := by decide +kernel
theorem dX5_readMore_90 : decode cX5_readMore 90 = .ok (.getfield 13, 3) := by decide +kernel
theorem dX5_readMore_93 : decode cX5_readMore 93 = .ok (.bipush 15, 2) := by decide +kernel
theorem dX5_readMore_95 : decode cX5_readMore 95 = .ok (.aload_n 0, 1) := by decide +kernel
theorem dX5_readMore_96 : decode cX5_readMore 96 = .ok (.iconst 1, 1) := by decide +kernel
theorem dX5_readMore_97 : decode cX5_readMore 97 = .ok (.bipush 99, 2) := by decide +kernel
theorem dX5_readMore_99 : decode cX5_readMore 99 = .ok (.invokevirtual 96, 3) := by decide +kernel
theorem dX5_readMore_102 : decode cX5_readMore 102 = .ok (.bipush 25, 2) := by decide +kernel
theorem dX5_readMore_104 : decode cX5_readMore 104 = .ok (.isub, 1) := by decide +kernel
theorem dX5_readMore_105 : decode cX5_readMore 105 = .ok (.iastore, 1) := by decide +kernel
theorem dX5_readMore_106 : decode cX5_readMore 106 = .ok (.return_, 1) := by decide +kernel
theorem dX5_readLine_0 : decode cX5_readLine 0 = .ok (.aload_n 0, 1) := by decide +kernel
theorem dX5_readLine_1 : decode cX5_readLine 1 = .ok (.invokevirtual 112, 3) := by decide +kernel
theorem dX5_readLine_4 : decode cX5_readLine 4 = .ok (.istore_n 1, 1) := by decide +kernel
theorem dX5_readLine_5 : decode cX5_readLine 5 = .ok (.iload_n 1, 1) := by decide +kernel
theorem dX5_readLine_6 : decode cX5_readLine 6 = .ok (.i2l, 1) := by decide +kernel
theorem dX5_readLine_7 : decode cX5_readLine 7 = .ok (.lconst 0, 1) := by decide +kernel
theorem dX5_readLine_8 : decode cX5_readLine 8 = .ok (.ldc2_w 116, 3) := by decide +kernel
theorem dX5_readLine_11 : decode cX5_readLine 11 = .ok (.invokestatic 46, 3) := by decide +kernel
theorem dX5_readLine_14 : decode cX5_readLine 14 = .ok (.ifCond .ne 9, 3) := by decide +kernel
theorem dX5_readLine_17 : decode cX5_readLine 17 = .ok (.aload_n 0, 1) := by decide +kernel
theorem dX5_readLine_18 : decode cX5_readLine 18 = .ok (.iconst 2, 1) := by decide +kernel
theorem dX5_readLine_19 : decode cX5_readLine 19 = .ok (.invokevirtual 84, 3) := by decide +kernel
theorem dX5_readLine_22 : decode cX5_readLine 22 = .ok (.return_, 1) := by decide +kernel
theorem dX5_readLine_23 : decode cX5_readLine 23 = .ok (.iload_n 1, 1) := by decide +kernel
theorem dX5_readLine_24 : decode cX5_readLine 24 = .ok (.iconst 3, 1) := by decide +kernel
theorem dX5_readLine_25 : decode cX5_readLine 25 = .ok (.if_icmp .gt 11, 3) := by decide +kernel
theorem dX5_readLine_28 : decode cX5_readLine 28 = .ok (.aload_n 0, 1) := by decide +kernel
theorem dX5_readLine_29 : decode cX5_readLine 29 = .ok (.getfield 103, 3) := by decide +kernel
theorem dX5_readLine_32 : decode cX5_readLine 32 = .ok (.iconst 5, 1) := by decide +kernel
theorem dX5_readLine_33 : decode cX5_readLine 33 = .ok (.if_icmp .eq 20, 3) := by decide +kernel
theorem dX5_readLine_36 : decode cX5_readLine 36 = .ok (.iload_n 1, 1) := by decide +kernel
theorem dX5_readLine_37 : decode cX5_readLine 37 = .ok (.iconst 4, 1) := by decide +kernel
theorem dX5_readLine_38 : decode cX5_readLine 38 = .ok (.if_icmp .ne 20, 3) := by decide +kernel
theorem dX5_readLine_41 : decode cX5_readLine 41 = .ok (.aload_n 0, 1) := by decide +kernel
theorem dX5_readLine_42 : decode cX5_readLine 42 = .ok (.getfield 13, 3) := by decide +kernel
theorem dX5_readLine_45 : decode cX5_readLine 45 = .ok (.bipush 52, 2) := by decide +kernel
theorem dX5_readLine_47 : decode cX5_readLine 47 = .ok (.iaload, 1) := by decide +kernel
theorem dX5_readLine_48 : decode cX5_readLine 48 = .ok (.bipush 8, 2) := by decide +kernel
theorem dX5_readLine_50 : decode cX5_readLine 50 = .ok (.if_icmp .ne 8, 3) := by decide +kernel
theorem dX5_readLine_53 : decode cX5_readLine 53 = .ok (.aload_n 0, 1) := by decide +kernel
theorem dX5_readLine_54 : decode cX5_readLine 54 = .ok (.iconst 5, 1) := by decide +kernel
theorem dX5_readLine_55 : decode cX5_readLine 55 = .ok (.invokevirtual 84, 3) := by decide +kernel
theorem dX5_readLine_58 : decode cX5_readLine 58 = .ok (.iload_n 1, 1) := by decide +kernel
theorem dX5_readLine_59 : decode cX5_readLine 59 = .ok (.bipush 6, 2) := by decide +kernel
theorem dX5_readLine_61 : decode cX5_readLine 61 = .ok (.if_icmp .ne 15, 3) := by decide +kernel
theorem dX5_readLine_64 : decode cX5_readLine 64 = .ok (.aload_n 0, 1) := by decide +kernel
theorem dX5_readLine_65 : decode cX5_readLine 65 = .ok (.getfield 118, 3) := by decide +kernel
theorem dX5_readLine_68 : decode cX5_readLine 68 = .ok (.ifCond .eq 8, 3) := by decide +kernel
theorem dX5_readLine_71 : decode cX5_readLine 71 = .ok (.aload_n 0, 1) := by decide +kernel
theorem dX5_readLine_72 : decode cX5_readLine 72 = .ok (.iconst 4, 1) := by decide +kernel
theorem dX5_readLine_73 : decode cX5_readLine 73 = .ok (.invokevirtual 84, 3) := by decide +kernel
theorem dX5_readLine_76 : decode cX5_readLine 76 = .ok (.aload_n 0, 1) := by decide +kernel
theorem dX5_readLine_77 : decode cX5_readLine 77 = .ok (.aload_n 0, 1) := by decide +kernel
theorem dX5_readLine_78 : decode cX5_readLine 78 = .ok (.getfield 118, 3) := by decide +kernel
theorem dX5_readLine_81 : decode cX5_readLine 81 = .ok (.ifCond .ne 9, 3) := by decide +kernel
theorem dX5_readLine_84 : decode cX5_readLine 84 = .ok (.iload_n 1, 1) := by decide +kernel
theorem dX5_readLine_85 : decode cX5_readLine 85 = .ok (.bipush 6, 2) := by decide +kernel
theorem dX5_readLine_87 : decode cX5_readLine 87 = .ok (.if_icmp .ne 7, 3) := by decide +kernel
theorem dX5_readLine_90 : decode cX5_readLine 90 = .ok (.iconst 1, 1) := by decide +kernel
theorem dX5_readLine_91 : decode cX5_readLine 91 = .ok (.goto 4, 3) := by decide +kernel
theorem dX5_readLine_94 : decode cX5_readLine 94 = .ok (.iconst 0, 1) := by decide +kernel
theorem dX5_readLine_95 : decode cX5_readLine 95 = .ok (.putfield 118, 3) := by decide +kernel
theorem dX5_readLine_98 : decode cX5_readLine 98 = .ok (.aload_n 0, 1) := by decide +kernel
theorem dX5_readLine_99 : decode cX5_readLine 99 = .ok (.invokevirtual 88, 3) := by decide +kernel
theorem dX5_readLine_102 : decode cX5_readLine 102 = .ok (.aload_n 0, 1) := by decide +kernel
theorem dX5_readLine_103 : decode cX5_readLine 103 = .ok (.getfield 54, 3) := by decide +kernel
theorem dX5_readLine_106 : decode cX5_readLine 106 = .ok (.ifCond .le 4, 3) := by decide +kernel
theorem dX5_readLine_109 : decode cX5_readLine 109 = .ok (.return_, 1) := by decide +kernel
theorem dX5_readLine_110 : decode cX5_readLine 110 = .ok (.aload_n 0, 1) := by decide +kernel
theorem dX5_readLine_111 : decode cX5_readLine 111 = .ok (.iload_n 1, 1) := by decide +kernel
theorem dX5_readLine_112 : decode cX5_readLine 112 = .ok (.invokevirtual 122, 3) := by decide +kernel
theorem dX5_readLine_115 : decode cX5_readLine 115 = .ok (.aload_n 0, 1) := by decide +kernel
theorem dX5_readLine_116 : decode cX5_readLine 116 = .ok (.getfield 54, 3) := by decide +kernel
theorem dX5_readLine_119 : decode cX5_readLine 119 = .ok (.ifCond .ne 16, 3) := by decide +kernel
theorem dX5_readLine_122 : decode cX5_readLine 122 = .ok (.aload_n 0, 1) := by decide +kernel
theorem dX5_readLine_123 : decode cX5_readLine 123 = .ok (.getfield 63, 3) := by decide +kernel
theorem dX5_readLine_126 : decode cX5_readLine 126 = .ok (.iconst 3, 1) := by decide +kernel
theorem dX5_readLine_127 : decode cX5_readLine 127 = .ok (.if_icmp .eq 8, 3) := by decide +kernel
theorem dX5_readLine_130 : decode cX5_readLine 130 = .ok (.aload_n 0, 1) := by decide +kernel
theorem dX5_readLine_131 : decode cX5_readLine 131 = .ok (.iconst 2, 1) := by decide +kernel
theorem dX5_readLine_132 : decode cX5_readLine 132 = .ok (.invokevirtual 84, 3) := by decide +kernel
theorem dX5_readLine_135 : decode cX5_readLine 135 = .ok (.aload_n 0, 1) := by decide +kernel
theorem dX5_readLine_136 : decode cX5_readLine 136 = .ok (.invokevirtual 88, 3) := by decide +kernel
theorem dX5_readLine_139 : decode cX5_readLine 139 = .ok (.return_, 1) := by decide +kernel
theorem dX5_text_0 : decode cX5_text 0 = .ok (.aload_n 0, 1) := by decide +kernel
theorem dX5_text_1 : decode cX5_text 1 = .ok (.iconst 0, 1) := by decide +kernel
theorem dX5_text_2 : decode cX5_text 2 = .ok (.putfield 54, 3) := by decide +kernel
theorem dX5_text_5 : decode cX5_text 5 = .ok (.aload_n 0, 1) := by decide +kernel
theorem dX5_text_6 : decode cX5_text 6 = .ok (.iconst 0, 1) := by decide +kernel
theorem dX5_text_7 : decode cX5_text 7 = .ok (.putfield 66, 3) := by decide +kernel
theorem dX5_text_10 : decode cX5_text 10 = .ok (.aload_n 0, 1) := by decide +kernel
theorem dX5_text_11 : decode cX5_text 11 = .ok (.iconst 0, 1) := by decide +kernel
theorem dX5_text_12 : decode cX5_text 12 = .ok (.putfield 103, 3) := by decide +kernel
theorem dX5_text_15 : decode cX5_text 15 = .ok (.aload_n 0, 1) := by decide +kernel
theorem dX5_text_16 : decode cX5_text 16 = .ok (.iconst 0, 1) := by decide +kernel
theorem dX5_text_17 : decode cX5_text 17 = .ok (.putfield 93, 3) := by decide +kernel
theorem dX5_text_20 : decode cX5_text 20 = .ok (.aload_n 0, 1) := by decide +kernel
theorem dX5_text_21 : decode cX5_text 21 = .ok (.iconst 0, 1) := by decide +kernel
theorem dX5_text_22 : decode cX5_text 22 = .ok (.putfield 118, 3) := by decide +kernel
theorem dX5_text_25 : decode cX5_text 25 = .ok (.aload_n 0, 1) := by decide +kernel
theorem dX5_text_26 : decode cX5_text 26 = .ok (.iconst (-1), 1) := by decide +kernel
theorem dX5_text_27 : decode cX5_text 27 = .ok (.putfield 100, 3) := by decide +kernel
theorem dX5_text_30 : decode cX5_text 30 = .ok (.iconst 0, 1) := by decide +kernel
theorem dX5_text_31 : decode cX5_text 31 = .ok (.istore_n 1, 1) := by decide +kernel
theorem dX5_text_32 : decode cX5_text 32 = .ok (.iconst 0, 1) := by decide +kernel
theorem dX5_text_33 : decode cX5_text 33 = .ok (.istore_n 2, 1) := by decide +kernel
theorem dX5_text_34 : decode cX5_text 34 = .ok (.iload_n 2, 1) := by decide +kernel
theorem dX5_text_35 : decode cX5_text 35 = .ok (.bipush 55, 2) := by decide +kernel
theorem dX5_text_37 : decode cX5_text 37 = .ok (.if_icmp .ge 16, 3) := by decide +kernel
theorem dX5_text_40 : decode cX5_text 40 = .ok (.aload_n 0, 1) := by decide +kernel
theorem dX5_text_41 : decode cX5_text 41 = .ok (.getfield 13, 3) := by decide +kernel
theorem dX5_text_44 : decode cX5_text 44 = .ok (.iload_n 2, 1) := by decide +kernel
theorem dX5_text_45 : decode cX5_text 45 = .ok (.iconst 0, 1) := by decide +kernel
theorem dX5_text_46 : decode cX5_text 46 = .ok (.iastore, 1) := by decide +kernel
theorem dX5_text_47 : decode cX5_text 47 = .ok (.iinc 2 1, 3) := by decide +kernel
theorem dX5_text_50 : decode cX5_text 50 = .ok (.goto (-16), 3) := by decide +kernel
theorem dX5_text_53 : decode cX5_text 53 = .ok (.aload_n 0, 1) := by decide +kernel
theorem dX5_text_54 : decode cX5_text 54 = .ok (.invokevirtual 88, 3) := by decide +kernel
theorem dX5_text_57 : decode cX5_text 57 = .ok (.aload_n 0, 1) := by decide +kernel
theorem dX5_text_58 : decode cX5_text 58 = .ok (.getfield 54, 3) := by decide +kernel
theorem dX5_text_61 : decode cX5_text 61 = .ok (.ifCond .ne 20, 3) := by decide +kernel
theorem dX5_text_64 : decode cX5_text 64 = .ok (.aload_n 0, 1) := by decide +kernel
theorem dX5_text_65 : decode cX5_text 65 = .ok (.getfield 63, 3) := by decide +kernel
theorem dX5_text_68 : decode cX5_text 68 = .ok (.ifCond .eq 13, 3) := by decide +kernel
theorem dX5_text_71 : decode cX5_text 71 = .ok (.aload_n 0, 1) := by decide +kernel
theorem dX5_text_72 : decode cX5_text 72 = .ok (.invokevirtual 125, 3) := by decide +kernel
theorem dX5_text_75 : decode cX5_text 75 = .ok (.iinc 1 1, 3) := by decide +kernel
theorem dX5_text_78 : decode cX5_text 78 = .ok (.goto (-21), 3) := by decide +kernel
theorem dX5_text_81 : decode cX5_text 81 = .ok (.aload_n 0, 1) := by decide +kernel
theorem dX5_text_82 : decode cX5_text 82 = .ok (.getfield 54, 3) := by decide +kernel
theorem dX5_text_85 : decode cX5_text 85 = .ok (.ifCond .ne 20, 3) := by decide +kernel
theorem dX5_text_88 : decode cX5_text 88 = .ok (.aload_n 0, 1) := by decide +kernel
theorem dX5_text_89 : decode cX5_text 89 = .ok (.getfield 100, 3) := by decide +kernel
theorem dX5_text_92 : decode cX5_text 92 = .ok (.aload_n 0, 1) := by decide +kernel
theorem dX5_text_93 : decode cX5_text 93 = .ok (.getfield 103, 3) := by decide +kernel
theorem dX5_text_96 : decode cX5_text 96 = .ok (.if_icmp .lt 9, 3) := by decide +kernel
theorem dX5_text_99 : decode cX5_text 99 = .ok (.aload_n 0, 1) := by decide +kernel
theorem dX5_text_100 : decode cX5_text 100 = .ok (.bipush 6, 2) := by decide +kernel
theorem dX5_text_102 : decode cX5_text 102 = .ok (.invokevirtual 84, 3) := by decide +kernel
theorem dX5_text_105 : decode cX5_text 105 = .ok (.aload_n 0, 1) := by decide +kernel
theorem dX5_text_106 : decode cX5_text 106 = .ok (.iconst 0, 1) := by decide +kernel
theorem dX5_text_107 : decode cX5_text 107 = .ok (.putfield 50, 3) := by decide +kernel
theorem dX5_text_110 : decode cX5_text 110 = .ok (.aload_n 0, 1) := by decide +kernel
theorem dX5_text_111 : decode cX5_text 111 = .ok (.aload_n 0, 1) := by decide +kernel
theorem dX5_text_112 : decode cX5_text 112 = .ok (.getfield 54, 3) := by decide +kernel
theorem dX5_text_115 : decode cX5_text 115 = .ok (.putfield 128, 3) := by decide +kernel
theorem dX5_text_118 : decode cX5_text 118 = .ok (.aload_n 0, 1) := by decide +kernel
theorem dX5_text_119 : decode cX5_text 119 = .ok (.getfield 54, 3) := by decide +kernel
theorem dX5_text_122 : decode cX5_text 122 = .ok (.ifCond .le 11, 3) := by decide +kernel
theorem dX5_text_125 : decode cX5_text 125 = .ok (.bipush (-10), 2) := by decide +kernel
theorem dX5_text_127 : decode cX5_text 127 = .ok (.aload_n 0, 1) := by decide +kernel
theorem dX5_text_128 : decode cX5_text 128 = .ok (.getfield 60, 3) := by decide +kernel
theorem dX5_text_131 : decode cX5_text 131 = .ok (.isub, 1) := by decide +kernel
theorem dX5_text_132 : decode cX5_text 132 = .ok (.ireturn, 1) := by decide +kernel
theorem dX5_text_133 : decode cX5_text 133 = .ok (.iconst 0, 1) := by decide +kernel
theorem dX5_text_134 : decode cX5_text 134 = .ok (.istore_n 2, 1) := by decide +kernel
theorem dX5_text_135 : decode cX5_text 135 = .ok (.iload_n 2, 1) := by decide +kernel
theorem dX5_text_136 : decode cX5_text 136 = .ok (.bipush 55, 2) := by decide +kernel
theorem dX5_text_138 : decode cX5_text 138 = .ok (.if_icmp .ge 21, 3) := by decide +kernel
theorem dX5_text_141 : decode cX5_text 141 = .ok (.aload_n 0, 1) := by decide +kernel
theorem dX5_text_142 : decode cX5_text 142 = .ok (.getfield 7, 3) := by decide +kernel
theorem dX5_text_145 : decode cX5_text 145 = .ok (.iload_n 2, 1) := by decide +kernel
theorem dX5_text_146 : decode cX5_text 146 = .ok (.aload_n 0, 1) := by decide +kernel
theorem dX5_text_147 : decode cX5_text 147 = .ok (.getfield 13, 3) := by decide +kernel
theorem dX5_text_150 : decode cX5_text 150 = .ok (.iload_n 2, 1) := by decide +kernel
theorem dX5_text_151 : decode cX5_text 151 = .ok (.iaload, 1) := by decide +kernel
theorem dX5_text_152 : decode cX5_text 152 = .ok (.iastore, 1) := by decide +kernel
theorem dX5_text_153 : decode cX5_text 153 = .ok (.iinc 2 1, 3) := by decide +kernel
theorem dX5_text_156 : decode cX5_text 156 = .ok (.goto (-21), 3) := by decide +kernel
theorem dX5_text_159 : decode cX5_text 159 = .ok (.aload_n 0, 1) := by decide +kernel
theorem dX5_text_160 : decode cX5_text 160 = .ok (.aload_n 0, 1) := by decide +kernel
theorem dX5_text_161 : decode cX5_text 161 = .ok (.getfield 103, 3) := by decide +kernel
theorem dX5_text_164 : decode cX5_text 164 = .ok (.putfield 131, 3) := by decide +kernel
theorem dX5_text_167 : decode cX5_text 167 = .ok (.aload_n 0, 1) := by decide +kernel
theorem dX5_text_168 : decode cX5_text 168 = .ok (.iconst 0, 1) := by decide +kernel
theorem dX5_text_169 : decode cX5_text 169 = .ok (.putfield 134, 3) := by decide +kernel
theorem dX5_text_172 : decode cX5_text 172 = .ok (.aload_n 0, 1) := by decide +kernel
theorem dX5_text_173 : decode cX5_text 173 = .ok (.getfield 31, 3) := by decide +kernel
theorem dX5_text_176 : decode cX5_text 176 = .ok (.iconst 0, 1) := by decide +kernel
theorem dX5_text_177 : decode cX5_text 177 = .ok (.iconst 0, 1) := by decide +kernel
theorem dX5_text_178 : decode cX5_text 178 = .ok (.bastore, 1) := by decide +kernel
theorem dX5_text_179 : decode cX5_text 179 = .ok (.aload_n 0, 1) := by decide +kernel
theorem dX5_text_180 : decode cX5_text 180 = .ok (.getfield 31, 3) := by decide +kernel
theorem dX5_text_183 : decode cX5_text 183 = .ok (.iconst 1, 1) := by decide +kernel
theorem dX5_text_184 : decode cX5_text 184 = .ok (.iconst 0, 1) := by decide +kernel
theorem dX5_text_185 : decode cX5_text 185 = .ok (.bastore, 1) := by decide +kernel
theorem dX5_text_186 : decode cX5_text 186 = .ok (.iload_n 1, 1) := by decide +kernel
theorem dX5_text_187 : decode cX5_text 187 = .ok (.ireturn, 1) := by decide +kernel
theorem dX5_fault_0 : decode cX5_fault 0 = .ok (.aload_n 0, 1) := by decide +kernel
theorem dX5_fault_1 : decode cX5_fault 1 = .ok (.getfield 128, 3) := by decide +kernel
theorem dX5_fault_4 : decode cX5_fault 4 = .ok (.ireturn, 1) := by decide +kernel
theorem dX5_isRider_0 : decode cX5_isRider 0 = .ok (.iload_n 1, 1) := by decide +kernel
theorem dX5_isRider_1 : decode cX5_isRider 1 = .ok (.i2l, 1) := by decide +kernel
theorem dX5_isRider_2 : decode cX5_isRider 2 = .ok (.lconst 0, 1) := by decide +kernel
theorem dX5_isRider_3 : decode cX5_isRider 3 = .ok (.aload_n 0, 1) := by decide +kernel
theorem dX5_isRider_4 : decode cX5_isRider 4 = .ok (.getfield 131, 3) := by decide +kernel
theorem dX5_isRider_7 : decode cX5_isRider 7 = .ok (.iconst 1, 1) := by decide +kernel
theorem dX5_isRider_8 : decode cX5_isRider 8 = .ok (.isub, 1) := by decide +kernel
theorem dX5_isRider_9 : decode cX5_isRider 9 = .ok (.i2l, 1) := by decide +kernel
theorem dX5_isRider_10 : decode cX5_isRider 10 = .ok (.invokestatic 46, 3) := by decide +kernel
theorem dX5_isRider_13 : decode cX5_isRider 13 = .ok (.ireturn, 1) := by decide +kernel
theorem dX5_isReporter_0 : decode cX5_isReporter 0 = .ok (.iload_n 0, 1) := by decide +kernel
theorem dX5_isReporter_1 : decode cX5_isReporter 1 = .ok (.i2l, 1) := by decide +kernel
theorem dX5_isReporter_2 : decode cX5_isReporter 2 = .ok (.lconst 0, 1) := by decide +kernel
theorem dX5_isReporter_3 : decode cX5_isReporter 3 = .ok (.ldc2_w 91, 3) := by decide +kernel
theorem dX5_isReporter_6 : decode cX5_isReporter 6 = .ok (.invokestatic 46, 3) := by decide +kernel
theorem dX5_isReporter_9 : decode cX5_isReporter 9 = .ok (.ireturn, 1) := by decide +kernel
theorem dX5_isEnd_0 : decode cX5_isEnd 0 = .ok (.iload_n 0, 1) := by decide +kernel
theorem dX5_isEnd_1 : decode cX5_isEnd 1 = .ok (.i2l, 1) := by decide +kernel
theorem dX5_isEnd_2 : decode cX5_isEnd 2 = .ok (.lconst 0, 1) := by decide +kernel
theorem dX5_isEnd_3 : decode cX5_isEnd 3 = .ok (.ldc2_w 91, 3) := by decide +kernel
theorem dX5_isEnd_6 : decode cX5_isEnd 6 = .ok (.invokestatic 46, 3) := by decide +kernel
theorem dX5_isEnd_9 : decode cX5_isEnd 9 = .ok (.ireturn, 1) := by decide +kernel
theorem dX5_isDay_0 : decode cX5_isDay 0 = .ok (.iload_n 0, 1) := by decide +kernel
theorem dX5_isDay_1 : decode cX5_isDay 1 = .ok (.i2l, 1) := by decide +kernel
theorem dX5_isDay_2 : decode cX5_isDay 2 = .ok (.lconst 0, 1) := by decide +kernel
theorem dX5_isDay_3 : decode cX5_isDay 3 = .ok (.ldc2_w 137, 3) := by decide +kernel
theorem dX5_isDay_6 : decode cX5_isDay 6 = .ok (.invokestatic 46, 3) := by decide +kernel
theorem dX5_isDay_9 : decode cX5_isDay 9 = .ok (.ireturn, 1) := by decide +kernel
theorem dX5_isReport_0 : decode cX5_isReport 0 = .ok (.iload_n 1, 1) := by decide +kernel
theorem dX5_isReport_1 : decode cX5_isReport 1 = .ok (.i2l, 1) := by decide +kernel
theorem dX5_isReport_2 : decode cX5_isReport 2 = .ok (.lconst 0, 1) := by decide +kernel
theorem dX5_isReport_3 : decode cX5_isReport 3 = .ok (.aload_n 0, 1) := by decide +kernel
theorem dX5_isReport_4 : decode cX5_isReport 4 = .ok (.getfield 7, 3) := by decide +kernel
theorem dX5_isReport_7 : decode cX5_isReport 7 = .ok (.bipush 52, 2) := by decide +kernel
theorem dX5_isReport_9 : decode cX5_isReport 9 = .ok (.iaload, 1) := by decide +kernel
theorem dX5_isReport_10 : decode cX5_isReport 10 = .ok (.iconst 1, 1) := by decide +kernel
theorem dX5_isReport_11 : decode cX5_isReport 11 = .ok (.isub, 1) := by decide +kernel
theorem dX5_isReport_12 : decode cX5_isReport 12 = .ok (.i2l, 1) := by decide +kernel
theorem dX5_isReport_13 : decode cX5_isReport 13 = .ok (.invokestatic 46, 3) := by decide +kernel
theorem dX5_isReport_16 : decode cX5_isReport 16 = .ok (.ireturn, 1) := by decide +kernel
theorem dX5_legsOf_0 : decode cX5_legsOf 0 = .ok (.iload_n 0, 1) := by decide +kernel
theorem dX5_legsOf_1 : decode cX5_legsOf 1 = .ok (.iconst 1, 1) := by decide +kernel
theorem dX5_legsOf_2 : decode cX5_legsOf 2 = .ok (.iand, 1) := by decide +kernel
theorem dX5_legsOf_3 : decode cX5_legsOf 3 = .ok (.iload_n 0, 1) := by decide +kernel
theorem dX5_legsOf_4 : decode cX5_legsOf 4 = .ok (.iconst 1, 1) := by decide +kernel
theorem dX5_legsOf_5 : decode cX5_legsOf 5 = .ok (.ishr, 1) := by decide +kernel
theorem dX5_legsOf_6 : decode cX5_legsOf 6 = .ok (.iconst 1, 1) := by decide +kernel
theorem dX5_legsOf_7 : decode cX5_legsOf 7 = .ok (.iand, 1) := by decide +kernel
theorem dX5_legsOf_8 : decode cX5_legsOf 8 = .ok (.iadd, 1) := by decide +kernel
theorem dX5_legsOf_9 : decode cX5_legsOf 9 = .ok (.iload_n 0, 1) := by decide +kernel
theorem dX5_legsOf_10 : decode cX5_legsOf 10 = .ok (.iconst 2, 1) := by decide +kernel
theorem dX5_legsOf_11 : decode cX5_legsOf 11 = .ok (.ishr, 1) := by decide +kernel
theorem dX5_legsOf_12 : decode cX5_legsOf 12 = .ok (.iconst 1, 1) := by decide +kernel
theorem dX5_legsOf_13 : decode cX5_legsOf 13 = .ok (.iand, 1) := by decide +kernel
theorem dX5_legsOf_14 : decode cX5_legsOf 14 = .ok (.iadd, 1) := by decide +kernel
theorem dX5_legsOf_15 : decode cX5_legsOf 15 = .ok (.iload_n 0, 1) := by decide +kernel
theorem dX5_legsOf_16 : decode cX5_legsOf 16 = .ok (.iconst 3, 1) := by decide +kernel
theorem dX5_legsOf_17 : decode cX5_legsOf 17 = .ok (.ishr, 1) := by decide +kernel
theorem dX5_legsOf_18 : decode cX5_legsOf 18 = .ok (.iconst 1, 1) := by decide +kernel
theorem dX5_legsOf_19 : decode cX5_legsOf 19 = .ok (.iand, 1) := by decide +kernel
theorem dX5_legsOf_20 : decode cX5_legsOf 20 = .ok (.iadd, 1) := by decide +kernel
theorem dX5_legsOf_21 : decode cX5_legsOf 21 = .ok (.ireturn, 1) := by decide +kernel
theorem dX5_readsOf_0 : decode cX5_readsOf 0 = .ok (.iload_n 1, 1) := by decide +kernel
theorem dX5_readsOf_1 : decode cX5_readsOf 1 = .ok (.invokestatic 139, 3) := by decide +kernel
theorem dX5_readsOf_4 : decode cX5_readsOf 4 = .ok (.iconst 3, 1) := by decide +kernel
theorem dX5_readsOf_5 : decode cX5_readsOf 5 = .ok (.if_icmp .ge 10, 3) := by decide +kernel
theorem dX5_readsOf_8 : decode cX5_readsOf 8 = .ok (.iload_n 1, 1) := by decide +kernel
theorem dX5_readsOf_9 : decode cX5_readsOf 9 = .ok (.invokestatic 139, 3) := by decide +kernel
theorem dX5_readsOf_12 : decode cX5_readsOf 12 = .ok (.goto 4, 3) := by decide +kernel
theorem dX5_readsOf_15 : decode cX5_readsOf 15 = .ok (.iconst 3, 1) := by decide +kernel
theorem dX5_readsOf_16 : decode cX5_readsOf 16 = .ok (.istore_n 2, 1) := by decide +kernel
theorem dX5_readsOf_17 : decode cX5_readsOf 17 = .ok (.iload_n 2, 1) := by decide +kernel
theorem dX5_readsOf_18 : decode cX5_readsOf 18 = .ok (.ifCond .le 9, 3) := by decide +kernel
theorem dX5_readsOf_21 : decode cX5_readsOf 21 = .ok (.iload_n 2, 1) := by decide +kernel
theorem dX5_readsOf_22 : decode cX5_readsOf 22 = .ok (.iconst 1, 1) := by decide +kernel
theorem dX5_readsOf_23 : decode cX5_readsOf 23 = .ok (.isub, 1) := by decide +kernel
theorem dX5_readsOf_24 : decode cX5_readsOf 24 = .ok (.goto 4, 3) := by decide +kernel
theorem dX5_readsOf_27 : decode cX5_readsOf 27 = .ok (.iconst 0, 1) := by decide +kernel
theorem dX5_readsOf_28 : decode cX5_readsOf 28 = .ok (.istore_n 3, 1) := by decide +kernel
theorem dX5_readsOf_29 : decode cX5_readsOf 29 = .ok (.iload_n 0, 1) := by decide +kernel
theorem dX5_readsOf_30 : decode cX5_readsOf 30 = .ok (.ifCond .ne 7, 3) := by decide +kernel
theorem dX5_readsOf_33 : decode cX5_readsOf 33 = .ok (.iload_n 2, 1) := by decide +kernel
theorem dX5_readsOf_34 : decode cX5_readsOf 34 = .ok (.goto 28, 3) := by decide +kernel
theorem dX5_readsOf_37 : decode cX5_readsOf 37 = .ok (.iload_n 0, 1) := by decide +kernel
theorem dX5_readsOf_38 : decode cX5_readsOf 38 = .ok (.iconst 1, 1) := by decide +kernel
theorem dX5_readsOf_39 : decode cX5_readsOf 39 = .ok (.if_icmp .ne 7, 3) := by decide +kernel
theorem dX5_readsOf_42 : decode cX5_readsOf 42 = .ok (.iload_n 3, 1) := by decide +kernel
theorem dX5_readsOf_43 : decode cX5_readsOf 43 = .ok (.goto 19, 3) := by decide +kernel
theorem dX5_readsOf_46 : decode cX5_readsOf 46 = .ok (.iload_n 0, 1) := by decide +kernel
theorem dX5_readsOf_47 : decode cX5_readsOf 47 = .ok (.iconst 2, 1) := by decide +kernel
theorem dX5_readsOf_48 : decode cX5_readsOf 48 = .ok (.if_icmp .ne 9, 3) := by decide +kernel
theorem dX5_readsOf_51 : decode cX5_readsOf 51 = .ok (.iconst 3, 1) := by decide +kernel
theorem dX5_readsOf_52 : decode cX5_readsOf 52 = .ok (.iload_n 2, 1) := by decide +kernel
theorem dX5_readsOf_53 : decode cX5_readsOf 53 = .ok (.isub, 1) := by decide +kernel
theorem dX5_readsOf_54 : decode cX5_readsOf 54 = .ok (.goto 8, 3) := by decide +kernel
theorem dX5_readsOf_57 : decode cX5_readsOf 57 = .ok (.iload_n 3, 1) := by decide +kernel
theorem dX5_readsOf_58 : decode cX5_readsOf 58 = .ok (.iconst 2, 1) := by decide +kernel
theorem dX5_readsOf_59 : decode cX5_readsOf 59 = .ok (.iadd, 1) := by decide +kernel
theorem dX5_readsOf_60 : decode cX5_readsOf 60 = .ok (.iconst 4, 1) := by decide +kernel
theorem dX5_readsOf_61 : decode cX5_readsOf 61 = .ok (.irem, 1) := by decide +kernel
theorem dX5_readsOf_62 : decode cX5_readsOf 62 = .ok (.ireturn, 1) := by decide +kernel
theorem dX5_readsOn_0 : decode cX5_readsOn 0 = .ok (.aload_n 0, 1) := by decide +kernel
theorem dX5_readsOn_1 : decode cX5_readsOn 1 = .ok (.getfield 7, 3) := by decide +kernel
theorem dX5_readsOn_4 : decode cX5_readsOn 4 = .ok (.iload_n 1, 1) := by decide +kernel
theorem dX5_readsOn_5 : decode cX5_readsOn 5 = .ok (.iload_n 2, 1) := by decide +kernel
theorem dX5_readsOn_6 : decode cX5_readsOn 6 = .ok (.iadd, 1) := by decide +kernel
theorem dX5_readsOn_7 : decode cX5_readsOn 7 = .ok (.iaload, 1) := by decide +kernel
theorem dX5_readsOn_8 : decode cX5_readsOn 8 = .ok (.aload_n 0, 1) := by decide +kernel
theorem dX5_readsOn_9 : decode cX5_readsOn 9 = .ok (.getfield 7, 3) := by decide +kernel
theorem dX5_readsOn_12 : decode cX5_readsOn 12 = .ok (.iload_n 1, 1) := by decide +kernel
theorem dX5_readsOn_13 : decode cX5_readsOn 13 = .ok (.iconst 5, 1) := by decide +kernel
theorem dX5_readsOn_14 : decode cX5_readsOn 14 = .ok (.iadd, 1) := by decide +kernel
theorem dX5_readsOn_15 : decode cX5_readsOn 15 = .ok (.iload_n 2, 1) := by decide +kernel
theorem dX5_readsOn_16 : decode cX5_readsOn 16 = .ok (.iadd, 1) := by decide +kernel
theorem dX5_readsOn_17 : decode cX5_readsOn 17 = .ok (.iaload, 1) := by decide +kernel
theorem dX5_readsOn_18 : decode cX5_readsOn 18 = .ok (.invokestatic 142, 3) := by decide +kernel
theorem dX5_readsOn_21 : decode cX5_readsOn 21 = .ok (.ireturn, 1) := by decide +kernel
theorem dX5_isUpright_0 : decode cX5_isUpright 0 = .ok (.aload_n 0, 1) := by decide +kernel
theorem dX5_isUpright_1 : decode cX5_isUpright 1 = .ok (.getfield 7, 3) := by decide +kernel
theorem dX5_isUpright_4 : decode cX5_isUpright 4 = .ok (.iload_n 1, 1) := by decide +kernel
theorem dX5_isUpright_5 : decode cX5_isUpright 5 = .ok (.bipush 10, 2) := by decide +kernel
theorem dX5_isUpright_7 : decode cX5_isUpright 7 = .ok (.iadd, 1) := by decide +kernel
theorem dX5_isUpright_8 : decode cX5_isUpright 8 = .ok (.iload_n 2, 1) := by decide +kernel
theorem dX5_isUpright_9 : decode cX5_isUpright 9 = .ok (.iadd, 1) := by decide +kernel
theorem dX5_isUpright_10 : decode cX5_isUpright 10 = .ok (.iaload, 1) := by decide +kernel
theorem dX5_isUpright_11 : decode cX5_isUpright 11 = .ok (.aload_n 0, 1) := by decide +kernel
theorem dX5_isUpright_12 : decode cX5_isUpright 12 = .ok (.getfield 7, 3) := by decide +kernel
theorem dX5_isUpright_15 : decode cX5_isUpright 15 = .ok (.iload_n 1, 1) := by decide +kernel
theorem dX5_isUpright_16 : decode cX5_isUpright 16 = .ok (.bipush 15, 2) := by decide +kernel
theorem dX5_isUpright_18 : decode cX5_isUpright 18 = .ok (.iadd, 1) := by decide +kernel
theorem dX5_isUpright_19 : decode cX5_isUpright 19 = .ok (.iaload, 1) := by decide +kernel
theorem dX5_isUpright_20 : decode cX5_isUpright 20 = .ok (.bipush 25, 2) := by decide +kernel
theorem dX5_isUpright_22 : decode cX5_isUpright 22 = .ok (.iadd, 1) := by decide +kernel
theorem dX5_isUpright_23 : decode cX5_isUpright 23 = .ok (.iconst 4, 1) := by decide +kernel
theorem dX5_isUpright_24 : decode cX5_isUpright 24 = .ok (.iload_n 3, 1) := by decide +kernel
theorem dX5_isUpright_25 : decode cX5_isUpright 25 = .ok (.invokestatic 139, 3) := by decide +kernel
theorem dX5_isUpright_28 : decode cX5_isUpright 28 = .ok (.isub, 1) := by decide +kernel
theorem dX5_isUpright_29 : decode cX5_isUpright 29 = .ok (.imul, 1) := by decide +kernel
theorem dX5_isUpright_30 : decode cX5_isUpright 30 = .ok (.if_icmp .gt 7, 3) := by decide +kernel
theorem dX5_isUpright_33 : decode cX5_isUpright 33 = .ok (.iconst 1, 1) := by decide +kernel
theorem dX5_isUpright_34 : decode cX5_isUpright 34 = .ok (.goto 4, 3) := by decide +kernel
theorem dX5_isUpright_37 : decode cX5_isUpright 37 = .ok (.iconst 0, 1) := by decide +kernel
theorem dX5_isUpright_38 : decode cX5_isUpright 38 = .ok (.ireturn, 1) := by decide +kernel
theorem dX5_standsOn_0 : decode cX5_standsOn 0 = .ok (.aload_n 0, 1) := by decide +kernel
theorem dX5_standsOn_1 : decode cX5_standsOn 1 = .ok (.iload_n 1, 1) := by decide +kernel
theorem dX5_standsOn_2 : decode cX5_standsOn 2 = .ok (.iload_n 2, 1) := by decide +kernel
theorem dX5_standsOn_3 : decode cX5_standsOn 3 = .ok (.aload_n 0, 1) := by decide +kernel
theorem dX5_standsOn_4 : decode cX5_standsOn 4 = .ok (.getfield 7, 3) := by decide +kernel
theorem dX5_standsOn_7 : decode cX5_standsOn 7 = .ok (.iload_n 1, 1) := by decide +kernel
theorem dX5_standsOn_8 : decode cX5_standsOn 8 = .ok (.iconst 5, 1) := by decide +kernel
theorem dX5_standsOn_9 : decode cX5_standsOn 9 = .ok (.iadd, 1) := by decide +kernel
theorem dX5_standsOn_10 : decode cX5_standsOn 10 = .ok (.iload_n 2, 1) := by decide +kernel
theorem dX5_standsOn_11 : decode cX5_standsOn 11 = .ok (.iadd, 1) := by decide +kernel
theorem dX5_standsOn_12 : decode cX5_standsOn 12 = .ok (.iaload, 1) := by decide +kernel
theorem dX5_standsOn_13 : decode cX5_standsOn 13 = .ok (.invokevirtual 145, 3) := by decide +kernel
theorem dX5_standsOn_16 : decode cX5_standsOn 16 = .ok (.ireturn, 1) := by decide +kernel
theorem dX5_toldOn_0 : decode cX5_toldOn 0 = .ok (.iconst 0, 1) := by decide +kernel
theorem dX5_toldOn_1 : decode cX5_toldOn 1 = .ok (.istore 5, 2) := by decide +kernel
theorem dX5_toldOn_3 : decode cX5_toldOn 3 = .ok (.iconst 0, 1) := by decide +kernel
theorem dX5_toldOn_4 : decode cX5_toldOn 4 = .ok (.istore 6, 2) := by decide +kernel
theorem dX5_toldOn_6 : decode cX5_toldOn 6 = .ok (.iload 6, 2) := by decide +kernel
theorem dX5_toldOn_8 : decode cX5_toldOn 8 = .ok (.aload_n 0, 1) := by decide +kernel
theorem dX5_toldOn_9 : decode cX5_toldOn 9 = .ok (.getfield 7, 3) := by decide +kernel
theorem dX5_toldOn_12 : decode cX5_toldOn 12 = .ok (.iload_n 1, 1) := by decide +kernel
theorem dX5_toldOn_13 : decode cX5_toldOn 13 = .ok (.bipush 52, 2) := by decide +kernel
theorem dX5_toldOn_15 : decode cX5_toldOn 15 = .ok (.iadd, 1) := by decide +kernel
theorem dX5_toldOn_16 : decode cX5_toldOn 16 = .ok (.iaload, 1) := by decide +kernel
theorem dX5_toldOn_17 : decode cX5_toldOn 17 = .ok (.if_icmp .ge 115, 3) := by decide +kernel
theorem dX5_toldOn_20 : decode cX5_toldOn 20 = .ok (.aload_n 0, 1) := by decide +kernel
theorem dX5_toldOn_21 : decode cX5_toldOn 21 = .ok (.getfield 7, 3) := by decide +kernel
theorem dX5_toldOn_24 : decode cX5_toldOn 24 = .ok (.iload_n 1, 1) := by decide +kernel
theorem dX5_toldOn_25 : decode cX5_toldOn 25 = .ok (.bipush 36, 2) := by decide +kernel
theorem dX5_toldOn_27 : decode cX5_toldOn 27 = .ok (.iadd, 1) := by decide +kernel
theorem dX5_toldOn_28 : decode cX5_toldOn 28 = .ok (.iload 6, 2) := by decide +kernel
theorem dX5_toldOn_30 : decode cX5_toldOn 30 = .ok (.iadd, 1) := by decide +kernel
theorem dX5_toldOn_31 : decode cX5_toldOn 31 = .ok (.iaload, 1) := by decide +kernel
theorem dX5_toldOn_32 : decode cX5_toldOn 32 = .ok (.iload_n 2, 1) := by decide +kernel
theorem dX5_toldOn_33 : decode cX5_toldOn 33 = .ok (.if_icmp .ne 40, 3) := by decide +kernel
theorem dX5_toldOn_36 : decode cX5_toldOn 36 = .ok (.aload_n 0, 1) := by decide +kernel
theorem dX5_toldOn_37 : decode cX5_toldOn 37 = .ok (.getfield 7, 3) := by decide +kernel
theorem dX5_toldOn_40 : decode cX5_toldOn 40 = .ok (.iload_n 1, 1) := by decide +kernel
theorem dX5_toldOn_41 : decode cX5_toldOn 41 = .ok (.bipush 44, 2) := by decide +kernel
theorem dX5_toldOn_43 : decode cX5_toldOn 43 = .ok (.iadd, 1) := by decide +kernel
theorem dX5_toldOn_44 : decode cX5_toldOn 44 = .ok (.iload 6, 2) := by decide +kernel
theorem dX5_toldOn_46 : decode cX5_toldOn 46 = .ok (.iadd, 1) := by decide +kernel
theorem dX5_toldOn_47 : decode cX5_toldOn 47 = .ok (.iaload, 1) := by decide +kernel
theorem dX5_toldOn_48 : decode cX5_toldOn 48 = .ok (.iload_n 3, 1) := by decide +kernel
theorem dX5_toldOn_49 : decode cX5_toldOn 49 = .ok (.if_icmp .ne 24, 3) := by decide +kernel
theorem dX5_toldOn_52 : decode cX5_toldOn 52 = .ok (.aload_n 0, 1) := by decide +kernel
theorem dX5_toldOn_53 : decode cX5_toldOn 53 = .ok (.getfield 7, 3) := by decide +kernel
theorem dX5_toldOn_56 : decode cX5_toldOn 56 = .ok (.iload_n 1, 1) := by decide +kernel
theorem dX5_toldOn_57 : decode cX5_toldOn 57 = .ok (.bipush 20, 2) := by decide +kernel
theorem dX5_toldOn_59 : decode cX5_toldOn 59 = .ok (.iadd, 1) := by decide +kernel
theorem dX5_toldOn_60 : decode cX5_toldOn 60 = .ok (.iload 6, 2) := by decide +kernel
theorem dX5_toldOn_62 : decode cX5_toldOn 62 = .ok (.iadd, 1) := by decide +kernel
theorem dX5_toldOn_63 : decode cX5_toldOn 63 = .ok (.iaload, 1) := by decide +kernel
theorem dX5_toldOn_64 : decode cX5_toldOn 64 = .ok (.iload 4, 2) := by decide +kernel
theorem dX5_toldOn_66 : decode cX5_toldOn 66 = .ok (.if_icmp .gt 7, 3) := by decide +kernel
theorem dX5_toldOn_69 : decode cX5_toldOn 69 = .ok (.iconst 1, 1) := by decide +kernel
theorem dX5_toldOn_70 : decode cX5_toldOn 70 = .ok (.goto 4, 3) := by decide +kernel
theorem dX5_toldOn_73 : decode cX5_toldOn 73 = .ok (.iconst 0, 1) := by decide +kernel
theorem dX5_toldOn_74 : decode cX5_toldOn 74 = .ok (.istore 7, 2) := by decide +kernel
theorem dX5_toldOn_76 : decode cX5_toldOn 76 = .ok (.iload 5, 2) := by decide +kernel
theorem dX5_toldOn_78 : decode cX5_toldOn 78 = .ok (.iload 7, 2) := by decide +kernel
theorem dX5_toldOn_80 : decode cX5_toldOn 80 = .ok (.ifCond .eq 42, 3) := by decide +kernel
theorem dX5_toldOn_83 : decode cX5_toldOn 83 = .ok (.aload_n 0, 1) := by decide +kernel
theorem dX5_toldOn_84 : decode cX5_toldOn 84 = .ok (.getfield 149, 3) := by decide +kernel
theorem dX5_toldOn_87 : decode cX5_toldOn 87 = .ok (.iload 6, 2) := by decide +kernel
theorem dX5_toldOn_89 : decode cX5_toldOn 89 = .ok (.ishr, 1) := by decide +kernel
theorem dX5_toldOn_90 : decode cX5_toldOn 90 = .ok (.iconst 1, 1) := by decide +kernel
theorem dX5_toldOn_91 : decode cX5_toldOn 91 = .ok (.iand, 1) := by decide +kernel
theorem dX5_toldOn_92 : decode cX5_toldOn 92 = .ok (.ifCond .ne 30, 3) := by decide +kernel
theorem dX5_toldOn_95 : decode cX5_toldOn 95 = .ok (.aload_n 0, 1) := by decide +kernel
theorem dX5_toldOn_96 : decode cX5_toldOn 96 = .ok (.getfield 7, 3) := by decide +kernel
theorem dX5_toldOn_99 : decode cX5_toldOn 99 = .ok (.iload_n 1, 1) := by decide +kernel
theorem dX5_toldOn_100 : decode cX5_toldOn 100 = .ok (.bipush 16, 2) := by decide +kernel
theorem dX5_toldOn_102 : decode cX5_toldOn 102 = .ok (.iadd, 1) := by decide +kernel
theorem dX5_toldOn_103 : decode cX5_toldOn 103 = .ok (.aload_n 0, 1) := by decide +kernel
theorem dX5_toldOn_104 : decode cX5_toldOn 104 = .ok (.getfield 7, 3) := by decide +kernel
theorem dX5_toldOn_107 : decode cX5_toldOn 107 = .ok (.iload_n 1, 1) := by decide +kernel
theorem dX5_toldOn_108 : decode cX5_toldOn 108 = .ok (.bipush 28, 2) := by decide +kernel
theorem dX5_toldOn_110 : decode cX5_toldOn 110 = .ok (.iadd, 1) := by decide +kernel
theorem dX5_toldOn_111 : decode cX5_toldOn 111 = .ok (.iload 6, 2) := by decide +kernel
theorem dX5_toldOn_113 : decode cX5_toldOn 113 = .ok (.iadd, 1) := by decide +kernel
theorem dX5_toldOn_114 : decode cX5_toldOn 114 = .ok (.iaload, 1) := by decide +kernel
theorem dX5_toldOn_115 : decode cX5_toldOn 115 = .ok (.iadd, 1) := by decide +kernel
theorem dX5_toldOn_116 : decode cX5_toldOn 116 = .ok (.iaload, 1) := by decide +kernel
theorem dX5_toldOn_117 : decode cX5_toldOn 117 = .ok (.iconst 1, 1) := by decide +kernel
theorem dX5_toldOn_118 : decode cX5_toldOn 118 = .ok (.iadd, 1) := by decide +kernel
theorem dX5_toldOn_119 : decode cX5_toldOn 119 = .ok (.goto 4, 3) := by decide +kernel
theorem dX5_toldOn_122 : decode cX5_toldOn 122 = .ok (.iconst 0, 1) := by decide +kernel
theorem dX5_toldOn_123 : decode cX5_toldOn 123 = .ok (.iadd, 1) := by decide +kernel
theorem dX5_toldOn_124 : decode cX5_toldOn 124 = .ok (.istore 5, 2) := by decide +kernel
theorem dX5_toldOn_126 : decode cX5_toldOn 126 = .ok (.iinc 6 1, 3) := by decide +kernel
theorem dX5_toldOn_129 : decode cX5_toldOn 129 = .ok (.goto (-123), 3) := by decide +kernel
theorem dX5_toldOn_132 : decode cX5_toldOn 132 = .ok (.iload 5, 2) := by decide +kernel
theorem dX5_toldOn_134 : decode cX5_toldOn 134 = .ok (.ireturn, 1) := by decide +kernel
theorem dX5_believedOn_0 : decode cX5_believedOn 0 = .ok (.bipush (-4), 2) := by decide +kernel
theorem dX5_believedOn_2 : decode cX5_believedOn 2 = .ok (.istore 4, 2) := by decide +kernel
theorem dX5_believedOn_4 : decode cX5_believedOn 4 = .ok (.iconst 0, 1) := by decide +kernel
theorem dX5_believedOn_5 : decode cX5_believedOn 5 = .ok (.istore 5, 2) := by decide +kernel
theorem dX5_believedOn_7 : decode cX5_believedOn 7 = .ok (.iconst 0, 1) := by decide +kernel
theorem dX5_believedOn_8 : decode cX5_believedOn 8 = .ok (.istore 6, 2) := by decide +kernel
theorem dX5_believedOn_10 : decode cX5_believedOn 10 = .ok (.iload 6, 2) := by decide +kernel
theorem dX5_believedOn_12 : decode cX5_believedOn 12 = .ok (.iconst 4, 1) := by decide +kernel
theorem dX5_believedOn_13 : decode cX5_believedOn 13 = .ok (.if_icmp .ge 52, 3) := by decide +kernel
theorem dX5_believedOn_16 : decode cX5_believedOn 16 = .ok (.aload_n 0, 1) := by decide +kernel
theorem dX5_believedOn_17 : decode cX5_believedOn 17 = .ok (.iload_n 1, 1) := by decide +kernel
theorem dX5_believedOn_18 : decode cX5_believedOn 18 = .ok (.iload_n 2, 1) := by decide +kernel
theorem dX5_believedOn_19 : decode cX5_believedOn 19 = .ok (.iload 6, 2) := by decide +kernel
theorem dX5_believedOn_21 : decode cX5_believedOn 21 = .ok (.iload_n 3, 1) := by decide +kernel
theorem dX5_believedOn_22 : decode cX5_believedOn 22 = .ok (.invokevirtual 152, 3) := by decide +kernel
theorem dX5_believedOn_25 : decode cX5_believedOn 25 = .ok (.istore 7, 2) := by decide +kernel
theorem dX5_believedOn_27 : decode cX5_believedOn 27 = .ok (.iload 7, 2) := by decide +kernel
theorem dX5_believedOn_29 : decode cX5_believedOn 29 = .ok (.iload 5, 2) := by decide +kernel
theorem dX5_believedOn_31 : decode cX5_believedOn 31 = .ok (.if_icmp .le 8, 3) := by decide +kernel
theorem dX5_believedOn_34 : decode cX5_believedOn 34 = .ok (.iload 6, 2) := by decide +kernel
theorem dX5_believedOn_36 : decode cX5_believedOn 36 = .ok (.goto 5, 3) := by decide +kernel
theorem dX5_believedOn_39 : decode cX5_believedOn 39 = .ok (.iload 4, 2) := by decide +kernel
theorem dX5_believedOn_41 : decode cX5_believedOn 41 = .ok (.istore 4, 2) := by decide +kernel
theorem dX5_believedOn_43 : decode cX5_believedOn 43 = .ok (.iload 7, 2) := by decide +kernel
theorem dX5_believedOn_45 : decode cX5_believedOn 45 = .ok (.iload 5, 2) := by decide +kernel
theorem dX5_believedOn_47 : decode cX5_believedOn 47 = .ok (.if_icmp .le 8, 3) := by decide +kernel
theorem dX5_believedOn_50 : decode cX5_believedOn 50 = .ok (.iload 7, 2) := by decide +kernel
theorem dX5_believedOn_52 : decode cX5_believedOn 52 = .ok (.goto 5, 3) := by decide +kernel
theorem dX5_believedOn_55 : decode cX5_believedOn 55 = .ok (.iload 5, 2) := by decide +kernel
theorem dX5_believedOn_57 : decode cX5_believedOn 57 = .ok (.istore 5, 2) := by decide +kernel
theorem dX5_believedOn_59 : decode cX5_believedOn 59 = .ok (.iinc 6 1, 3) := by decide +kernel
theorem dX5_believedOn_62 : decode cX5_believedOn 62 = .ok (.goto (-52), 3) := by decide +kernel
theorem dX5_believedOn_65 : decode cX5_believedOn 65 = .ok (.iload 4, 2) := by decide +kernel
theorem dX5_believedOn_67 : decode cX5_believedOn 67 = .ok (.ireturn, 1) := by decide +kernel
theorem dX5_agreesOn_0 : decode cX5_agreesOn 0 = .ok (.aload_n 0, 1) := by decide +kernel
theorem dX5_agreesOn_1 : decode cX5_agreesOn 1 = .ok (.iload_n 1, 1) := by decide +kernel
theorem dX5_agreesOn_2 : decode cX5_agreesOn 2 = .ok (.iload_n 2, 1) := by decide +kernel
theorem dX5_agreesOn_3 : decode cX5_agreesOn 3 = .ok (.aload_n 0, 1) := by decide +kernel
theorem dX5_agreesOn_4 : decode cX5_agreesOn 4 = .ok (.getfield 7, 3) := by decide +kernel
theorem dX5_agreesOn_7 : decode cX5_agreesOn 7 = .ok (.iload_n 1, 1) := by decide +kernel
theorem dX5_agreesOn_8 : decode cX5_agreesOn 8 = .ok (.bipush 53, 2) := by decide +kernel
theorem dX5_agreesOn_10 : decode cX5_agreesOn 10 = .ok (.iadd, 1) := by decide +kernel
theorem dX5_agreesOn_11 : decode cX5_agreesOn 11 = .ok (.iaload, 1) := by decide +kernel
theorem dX5_agreesOn_12 : decode cX5_agreesOn 12 = .ok (.invokevirtual 156, 3) := by decide +kernel
theorem dX5_agreesOn_15 : decode cX5_agreesOn 15 = .ok (.istore_n 3, 1) := by decide +kernel
theorem dX5_agreesOn_16 : decode cX5_agreesOn 16 = .ok (.iload_n 3, 1) := by decide +kernel
theorem dX5_agreesOn_17 : decode cX5_agreesOn 17 = .ok (.bipush (-4), 2) := by decide +kernel
theorem dX5_agreesOn_19 : decode cX5_agreesOn 19 = .ok (.if_icmp .eq 13, 3) := by decide +kernel
theorem dX5_agreesOn_22 : decode cX5_agreesOn 22 = .ok (.iload_n 3, 1) := by decide +kernel
theorem dX5_agreesOn_23 : decode cX5_agreesOn 23 = .ok (.aload_n 0, 1) := by decide +kernel
theorem dX5_agreesOn_24 : decode cX5_agreesOn 24 = .ok (.iload_n 1, 1) := by decide +kernel
theorem dX5_agreesOn_25 : decode cX5_agreesOn 25 = .ok (.iload_n 2, 1) := by decide +kernel
theorem dX5_agreesOn_26 : decode cX5_agreesOn 26 = .ok (.invokevirtual 160, 3) := by decide +kernel
theorem dX5_agreesOn_29 : decode cX5_agreesOn 29 = .ok (.if_icmp .ne 7, 3) := by decide +kernel
theorem dX5_agreesOn_32 : decode cX5_agreesOn 32 = .ok (.iconst 1, 1) := by decide +kernel
theorem dX5_agreesOn_33 : decode cX5_agreesOn 33 = .ok (.goto 4, 3) := by decide +kernel
theorem dX5_agreesOn_36 : decode cX5_agreesOn 36 = .ok (.iconst 0, 1) := by decide +kernel
theorem dX5_agreesOn_37 : decode cX5_agreesOn 37 = .ok (.ireturn, 1) := by decide +kernel
theorem dX5_apart_0 : decode cX5_apart 0 = .ok (.iload_n 0, 1) := by decide +kernel
theorem dX5_apart_1 : decode cX5_apart 1 = .ok (.iload_n 1, 1) := by decide +kernel
theorem dX5_apart_2 : decode cX5_apart 2 = .ok (.if_icmp .le 9, 3) := by decide +kernel
theorem dX5_apart_5 : decode cX5_apart 5 = .ok (.iload_n 0, 1) := by decide +kernel
theorem dX5_apart_6 : decode cX5_apart 6 = .ok (.iload_n 1, 1) := by decide +kernel
theorem dX5_apart_7 : decode cX5_apart 7 = .ok (.isub, 1) := by decide +kernel
theorem dX5_apart_8 : decode cX5_apart 8 = .ok (.goto 6, 3) := by decide +kernel
theorem dX5_apart_11 : decode cX5_apart 11 = .ok (.iload_n 1, 1) := by decide +kernel
theorem dX5_apart_12 : decode cX5_apart 12 = .ok (.iload_n 0, 1) := by decide +kernel
theorem dX5_apart_13 : decode cX5_apart 13 = .ok (.isub, 1) := by decide +kernel
theorem dX5_apart_14 : decode cX5_apart 14 = .ok (.ireturn, 1) := by decide +kernel
theorem dX5_legOn_0 : decode cX5_legOn 0 = .ok (.aload_n 0, 1) := by decide +kernel
theorem dX5_legOn_1 : decode cX5_legOn 1 = .ok (.iload_n 1, 1) := by decide +kernel
theorem dX5_legOn_2 : decode cX5_legOn 2 = .ok (.iload_n 2, 1) := by decide +kernel
theorem dX5_legOn_3 : decode cX5_legOn 3 = .ok (.aload_n 0, 1) := by decide +kernel
theorem dX5_legOn_4 : decode cX5_legOn 4 = .ok (.getfield 7, 3) := by decide +kernel
theorem dX5_legOn_7 : decode cX5_legOn 7 = .ok (.iload_n 1, 1) := by decide +kernel
theorem dX5_legOn_8 : decode cX5_legOn 8 = .ok (.bipush 53, 2) := by decide +kernel
theorem dX5_legOn_10 : decode cX5_legOn 10 = .ok (.iadd, 1) := by decide +kernel
theorem dX5_legOn_11 : decode cX5_legOn 11 = .ok (.iaload, 1) := by decide +kernel
theorem dX5_legOn_12 : decode cX5_legOn 12 = .ok (.invokevirtual 156, 3) := by decide +kernel
theorem dX5_legOn_15 : decode cX5_legOn 15 = .ok (.istore_n 3, 1) := by decide +kernel
theorem dX5_legOn_16 : decode cX5_legOn 16 = .ok (.aload_n 0, 1) := by decide +kernel
theorem dX5_legOn_17 : decode cX5_legOn 17 = .ok (.getfield 7, 3) := by decide +kernel
theorem dX5_legOn_20 : decode cX5_legOn 20 = .ok (.iload_n 1, 1) := by decide +kernel
theorem dX5_legOn_21 : decode cX5_legOn 21 = .ok (.iconst 5, 1) := by decide +kernel
theorem dX5_legOn_22 : decode cX5_legOn 22 = .ok (.iadd, 1) := by decide +kernel
theorem dX5_legOn_23 : decode cX5_legOn 23 = .ok (.iload_n 2, 1) := by decide +kernel
theorem dX5_legOn_24 : decode cX5_legOn 24 = .ok (.iadd, 1) := by decide +kernel
theorem dX5_legOn_25 : decode cX5_legOn 25 = .ok (.iaload, 1) := by decide +kernel
theorem dX5_legOn_26 : decode cX5_legOn 26 = .ok (.istore 4, 2) := by decide +kernel
theorem dX5_legOn_28 : decode cX5_legOn 28 = .ok (.aload_n 0, 1) := by decide +kernel
theorem dX5_legOn_29 : decode cX5_legOn 29 = .ok (.iload_n 1, 1) := by decide +kernel
theorem dX5_legOn_30 : decode cX5_legOn 30 = .ok (.iload_n 2, 1) := by decide +kernel
theorem dX5_legOn_31 : decode cX5_legOn 31 = .ok (.invokevirtual 160, 3) := by decide +kernel
theorem dX5_legOn_34 : decode cX5_legOn 34 = .ok (.iload_n 3, 1) := by decide +kernel
theorem dX5_legOn_35 : decode cX5_legOn 35 = .ok (.invokestatic 163, 3) := by decide +kernel
theorem dX5_legOn_38 : decode cX5_legOn 38 = .ok (.istore 5, 2) := by decide +kernel
theorem dX5_legOn_40 : decode cX5_legOn 40 = .ok (.iconst 0, 1) := by decide +kernel
theorem dX5_legOn_41 : decode cX5_legOn 41 = .ok (.istore 6, 2) := by decide +kernel
theorem dX5_legOn_43 : decode cX5_legOn 43 = .ok (.iload 6, 2) := by decide +kernel
theorem dX5_legOn_45 : decode cX5_legOn 45 = .ok (.iconst 4, 1) := by decide +kernel
theorem dX5_legOn_46 : decode cX5_legOn 46 = .ok (.if_icmp .ge 54, 3) := by decide +kernel
theorem dX5_legOn_49 : decode cX5_legOn 49 = .ok (.iload 4, 2) := by decide +kernel
theorem dX5_legOn_51 : decode cX5_legOn 51 = .ok (.iconst 1, 1) := by decide +kernel
theorem dX5_legOn_52 : decode cX5_legOn 52 = .ok (.iload 6, 2) := by decide +kernel
theorem dX5_legOn_54 : decode cX5_legOn 54 = .ok (.ishl, 1) := by decide +kernel
theorem dX5_legOn_55 : decode cX5_legOn 55 = .ok (.ixor, 1) := by decide +kernel
theorem dX5_legOn_56 : decode cX5_legOn 56 = .ok (.istore 7, 2) := by decide +kernel
theorem dX5_legOn_58 : decode cX5_legOn 58 = .ok (.aload_n 0, 1) := by decide +kernel
theorem dX5_legOn_59 : decode cX5_legOn 59 = .ok (.getfield 7, 3) := by decide +kernel
theorem dX5_legOn_62 : decode cX5_legOn 62 = .ok (.iload_n 1, 1) := by decide +kernel
theorem dX5_legOn_63 : decode cX5_legOn 63 = .ok (.iload_n 2, 1) := by decide +kernel
theorem dX5_legOn_64 : decode cX5_legOn 64 = .ok (.iadd, 1) := by decide +kernel
theorem dX5_legOn_65 : decode cX5_legOn 65 = .ok (.iaload, 1) := by decide +kernel
theorem dX5_legOn_66 : decode cX5_legOn 66 = .ok (.iload 7, 2) := by decide +kernel
theorem dX5_legOn_68 : decode cX5_legOn 68 = .ok (.invokestatic 142, 3) := by decide +kernel
theorem dX5_legOn_71 : decode cX5_legOn 71 = .ok (.iload_n 3, 1) := by decide +kernel
theorem dX5_legOn_72 : decode cX5_legOn 72 = .ok (.invokestatic 163, 3) := by decide +kernel
theorem dX5_legOn_75 : decode cX5_legOn 75 = .ok (.iload 5, 2) := by decide +kernel
theorem dX5_legOn_77 : decode cX5_legOn 77 = .ok (.if_icmp .ge 17, 3) := by decide +kernel
theorem dX5_legOn_80 : decode cX5_legOn 80 = .ok (.aload_n 0, 1) := by decide +kernel
theorem dX5_legOn_81 : decode cX5_legOn 81 = .ok (.iload_n 1, 1) := by decide +kernel
theorem dX5_legOn_82 : decode cX5_legOn 82 = .ok (.iload_n 2, 1) := by decide +kernel
theorem dX5_legOn_83 : decode cX5_legOn 83 = .ok (.iload 7, 2) := by decide +kernel
theorem dX5_legOn_85 : decode cX5_legOn 85 = .ok (.invokevirtual 145, 3) := by decide +kernel
theorem dX5_legOn_88 : decode cX5_legOn 88 = .ok (.ifCond .eq 6, 3) := by decide +kernel
theorem dX5_legOn_91 : decode cX5_legOn 91 = .ok (.iload 6, 2) := by decide +kernel
theorem dX5_legOn_93 : decode cX5_legOn 93 = .ok (.ireturn, 1) := by decide +kernel
theorem dX5_legOn_94 : decode cX5_legOn 94 = .ok (.iinc 6 1, 3) := by decide +kernel
theorem dX5_legOn_97 : decode cX5_legOn 97 = .ok (.goto (-54), 3) := by decide +kernel
theorem dX5_legOn_100 : decode cX5_legOn 100 = .ok (.bipush (-4), 2) := by decide +kernel
theorem dX5_legOn_102 : decode cX5_legOn 102 = .ok (.ireturn, 1) := by decide +kernel
theorem dX5_dayOn_0 : decode cX5_dayOn 0 = .ok (.iconst 0, 1) := by decide +kernel
theorem dX5_dayOn_1 : decode cX5_dayOn 1 = .ok (.istore_n 2, 1) := by decide +kernel
theorem dX5_dayOn_2 : decode cX5_dayOn 2 = .ok (.iload_n 2, 1) := by decide +kernel
theorem dX5_dayOn_3 : decode cX5_dayOn 3 = .ok (.aload_n 0, 1) := by decide +kernel
theorem dX5_dayOn_4 : decode cX5_dayOn 4 = .ok (.getfield 131, 3) := by decide +kernel
theorem dX5_dayOn_7 : decode cX5_dayOn 7 = .ok (.if_icmp .ge 94, 3) := by decide +kernel
theorem dX5_dayOn_10 : decode cX5_dayOn 10 = .ok (.aload_n 0, 1) := by decide +kernel
theorem dX5_dayOn_11 : decode cX5_dayOn 11 = .ok (.iload_n 1, 1) := by decide +kernel
theorem dX5_dayOn_12 : decode cX5_dayOn 12 = .ok (.iload_n 2, 1) := by decide +kernel
theorem dX5_dayOn_13 : decode cX5_dayOn 13 = .ok (.invokevirtual 166, 3) := by decide +kernel
theorem dX5_dayOn_16 : decode cX5_dayOn 16 = .ok (.ifCond .eq 8, 3) := by decide +kernel
theorem dX5_dayOn_19 : decode cX5_dayOn 19 = .ok (.bipush (-4), 2) := by decide +kernel
theorem dX5_dayOn_21 : decode cX5_dayOn 21 = .ok (.goto 9, 3) := by decide +kernel
theorem dX5_dayOn_24 : decode cX5_dayOn 24 = .ok (.aload_n 0, 1) := by decide +kernel
theorem dX5_dayOn_25 : decode cX5_dayOn 25 = .ok (.iload_n 1, 1) := by decide +kernel
theorem dX5_dayOn_26 : decode cX5_dayOn 26 = .ok (.iload_n 2, 1) := by decide +kernel
theorem dX5_dayOn_27 : decode cX5_dayOn 27 = .ok (.invokevirtual 170, 3) := by decide +kernel
theorem dX5_dayOn_30 : decode cX5_dayOn 30 = .ok (.istore_n 3, 1) := by decide +kernel
theorem dX5_dayOn_31 : decode cX5_dayOn 31 = .ok (.iload_n 3, 1) := by decide +kernel
theorem dX5_dayOn_32 : decode cX5_dayOn 32 = .ok (.bipush (-4), 2) := by decide +kernel
theorem dX5_dayOn_34 : decode cX5_dayOn 34 = .ok (.if_icmp .eq 61, 3) := by decide +kernel
theorem dX5_dayOn_37 : decode cX5_dayOn 37 = .ok (.aload_n 0, 1) := by decide +kernel
theorem dX5_dayOn_38 : decode cX5_dayOn 38 = .ok (.getfield 7, 3) := by decide +kernel
theorem dX5_dayOn_41 : decode cX5_dayOn 41 = .ok (.iload_n 1, 1) := by decide +kernel
theorem dX5_dayOn_42 : decode cX5_dayOn 42 = .ok (.iconst 5, 1) := by decide +kernel
theorem dX5_dayOn_43 : decode cX5_dayOn 43 = .ok (.iadd, 1) := by decide +kernel
theorem dX5_dayOn_44 : decode cX5_dayOn 44 = .ok (.iload_n 2, 1) := by decide +kernel
theorem dX5_dayOn_45 : decode cX5_dayOn 45 = .ok (.iadd, 1) := by decide +kernel
theorem dX5_dayOn_46 : decode cX5_dayOn 46 = .ok (.dup2, 1) := by decide +kernel
theorem dX5_dayOn_47 : decode cX5_dayOn 47 = .ok (.iaload, 1) := by decide +kernel
theorem dX5_dayOn_48 : decode cX5_dayOn 48 = .ok (.iconst 1, 1) := by decide +kernel
theorem dX5_dayOn_49 : decode cX5_dayOn 49 = .ok (.iload_n 3, 1) := by decide +kernel
theorem dX5_dayOn_50 : decode cX5_dayOn 50 = .ok (.ishl, 1) := by decide +kernel
theorem dX5_dayOn_51 : decode cX5_dayOn 51 = .ok (.ixor, 1) := by decide +kernel
theorem dX5_dayOn_52 : decode cX5_dayOn 52 = .ok (.iastore, 1) := by decide +kernel
theorem dX5_dayOn_53 : decode cX5_dayOn 53 = .ok (.aload_n 0, 1) := by decide +kernel
theorem dX5_dayOn_54 : decode cX5_dayOn 54 = .ok (.getfield 7, 3) := by decide +kernel
theorem dX5_dayOn_57 : decode cX5_dayOn 57 = .ok (.iload_n 1, 1) := by decide +kernel
theorem dX5_dayOn_58 : decode cX5_dayOn 58 = .ok (.bipush 54, 2) := by decide +kernel
theorem dX5_dayOn_60 : decode cX5_dayOn 60 = .ok (.iadd, 1) := by decide +kernel
theorem dX5_dayOn_61 : decode cX5_dayOn 61 = .ok (.dup2, 1) := by decide +kernel
theorem dX5_dayOn_62 : decode cX5_dayOn 62 = .ok (.iaload, 1) := by decide +kernel
theorem dX5_dayOn_63 : decode cX5_dayOn 63 = .ok (.aload_n 0, 1) := by decide +kernel
theorem dX5_dayOn_64 : decode cX5_dayOn 64 = .ok (.getfield 7, 3) := by decide +kernel
theorem dX5_dayOn_67 : decode cX5_dayOn 67 = .ok (.iload_n 1, 1) := by decide +kernel
theorem dX5_dayOn_68 : decode cX5_dayOn 68 = .ok (.bipush 54, 2) := by decide +kernel
theorem dX5_dayOn_70 : decode cX5_dayOn 70 = .ok (.iadd, 1) := by decide +kernel
theorem dX5_dayOn_71 : decode cX5_dayOn 71 = .ok (.iaload, 1) := by decide +kernel
theorem dX5_dayOn_72 : decode cX5_dayOn 72 = .ok (.sipush 9999, 3) := by decide +kernel
theorem dX5_dayOn_75 : decode cX5_dayOn 75 = .ok (.if_icmp .ge 7, 3) := by decide +kernel
theorem dX5_dayOn_78 : decode cX5_dayOn 78 = .ok (.iconst 1, 1) := by decide +kernel
theorem dX5_dayOn_79 : decode cX5_dayOn 79 = .ok (.goto 4, 3) := by decide +kernel
theorem dX5_dayOn_82 : decode cX5_dayOn 82 = .ok (.iconst 0, 1) := by decide +kernel
theorem dX5_dayOn_83 : decode cX5_dayOn 83 = .ok (.iadd, 1) := by decide +kernel
theorem dX5_dayOn_84 : decode cX5_dayOn 84 = .ok (.iastore, 1) := by decide +kernel
theorem dX5_dayOn_85 : decode cX5_dayOn 85 = .ok (.aload_n 0, 1) := by decide +kernel
theorem dX5_dayOn_86 : decode cX5_dayOn 86 = .ok (.dup, 1) := by decide +kernel
theorem dX5_dayOn_87 : decode cX5_dayOn 87 = .ok (.getfield 173, 3) := by decide +kernel
theorem dX5_dayOn_90 : decode cX5_dayOn 90 = .ok (.iconst 1, 1) := by decide +kernel
theorem dX5_dayOn_91 : decode cX5_dayOn 91 = .ok (.iadd, 1) := by decide +kernel
theorem dX5_dayOn_92 : decode cX5_dayOn 92 = .ok (.putfield 173, 3) := by decide +kernel
theorem dX5_dayOn_95 : decode cX5_dayOn 95 = .ok (.iinc 2 1, 3) := by decide +kernel
theorem dX5_dayOn_98 : decode cX5_dayOn 98 = .ok (.goto (-96), 3) := by decide +kernel
theorem dX5_dayOn_101 : decode cX5_dayOn 101 = .ok (.aload_n 0, 1) := by decide +kernel
theorem dX5_dayOn_102 : decode cX5_dayOn 102 = .ok (.getfield 7, 3) := by decide +kernel
theorem dX5_dayOn_105 : decode cX5_dayOn 105 = .ok (.iload_n 1, 1) := by decide +kernel
theorem dX5_dayOn_106 : decode cX5_dayOn 106 = .ok (.bipush 53, 2) := by decide +kernel
theorem dX5_dayOn_108 : decode cX5_dayOn 108 = .ok (.iadd, 1) := by decide +kernel
theorem dX5_dayOn_109 : decode cX5_dayOn 109 = .ok (.dup2, 1) := by decide +kernel
theorem dX5_dayOn_110 : decode cX5_dayOn 110 = .ok (.iaload, 1) := by decide +kernel
theorem dX5_dayOn_111 : decode cX5_dayOn 111 = .ok (.iconst 1, 1) := by decide +kernel
theorem dX5_dayOn_112 : decode cX5_dayOn 112 = .ok (.iadd, 1) := by decide +kernel
theorem dX5_dayOn_113 : decode cX5_dayOn 113 = .ok (.iastore, 1) := by decide +kernel
theorem dX5_dayOn_114 : decode cX5_dayOn 114 = .ok (.return_, 1) := by decide +kernel
theorem dX5_agreeOn_0 : decode cX5_agreeOn 0 = .ok (.iconst 0, 1) := by decide +kernel
theorem dX5_agreeOn_1 : decode cX5_agreeOn 1 = .ok (.istore_n 2, 1) := by decide +kernel
theorem dX5_agreeOn_2 : decode cX5_agreeOn 2 = .ok (.iconst 0, 1) := by decide +kernel
theorem dX5_agreeOn_3 : decode cX5_agreeOn 3 = .ok (.istore_n 3, 1) := by decide +kernel
theorem dX5_agreeOn_4 : decode cX5_agreeOn 4 = .ok (.iload_n 3, 1) := by decide +kernel
theorem dX5_agreeOn_5 : decode cX5_agreeOn 5 = .ok (.aload_n 0, 1) := by decide +kernel
theorem dX5_agreeOn_6 : decode cX5_agreeOn 6 = .ok (.getfield 131, 3) := by decide +kernel
theorem dX5_agreeOn_9 : decode cX5_agreeOn 9 = .ok (.if_icmp .ge 28, 3) := by decide +kernel
theorem dX5_agreeOn_12 : decode cX5_agreeOn 12 = .ok (.iload_n 2, 1) := by decide +kernel
theorem dX5_agreeOn_13 : decode cX5_agreeOn 13 = .ok (.aload_n 0, 1) := by decide +kernel
theorem dX5_agreeOn_14 : decode cX5_agreeOn 14 = .ok (.iload_n 1, 1) := by decide +kernel
theorem dX5_agreeOn_15 : decode cX5_agreeOn 15 = .ok (.iload_n 3, 1) := by decide +kernel
theorem dX5_agreeOn_16 : decode cX5_agreeOn 16 = .ok (.invokevirtual 166, 3) := by decide +kernel
theorem dX5_agreeOn_19 : decode cX5_agreeOn 19 = .ok (.ifCond .eq 9, 3) := by decide +kernel
theorem dX5_agreeOn_22 : decode cX5_agreeOn 22 = .ok (.iconst 1, 1) := by decide +kernel
theorem dX5_agreeOn_23 : decode cX5_agreeOn 23 = .ok (.iload_n 3, 1) := by decide +kernel
theorem dX5_agreeOn_24 : decode cX5_agreeOn 24 = .ok (.ishl, 1) := by decide +kernel
theorem dX5_agreeOn_25 : decode cX5_agreeOn 25 = .ok (.goto 4, 3) := by decide +kernel
theorem dX5_agreeOn_28 : decode cX5_agreeOn 28 = .ok (.iconst 0, 1) := by decide +kernel
theorem dX5_agreeOn_29 : decode cX5_agreeOn 29 = .ok (.ior, 1) := by decide +kernel
theorem dX5_agreeOn_30 : decode cX5_agreeOn 30 = .ok (.istore_n 2, 1) := by decide +kernel
theorem dX5_agreeOn_31 : decode cX5_agreeOn 31 = .ok (.iinc 3 1, 3) := by decide +kernel
theorem dX5_agreeOn_34 : decode cX5_agreeOn 34 = .ok (.goto (-30), 3) := by decide +kernel
theorem dX5_agreeOn_37 : decode cX5_agreeOn 37 = .ok (.iload_n 2, 1) := by decide +kernel
theorem dX5_agreeOn_38 : decode cX5_agreeOn 38 = .ok (.ireturn, 1) := by decide +kernel
theorem dX5_bitsOf_0 : decode cX5_bitsOf 0 = .ok (.iconst 0, 1) := by decide +kernel
theorem dX5_bitsOf_1 : decode cX5_bitsOf 1 = .ok (.istore_n 1, 1) := by decide +kernel
theorem dX5_bitsOf_2 : decode cX5_bitsOf 2 = .ok (.iload_n 0, 1) := by decide +kernel
theorem dX5_bitsOf_3 : decode cX5_bitsOf 3 = .ok (.istore_n 2, 1) := by decide +kernel
theorem dX5_bitsOf_4 : decode cX5_bitsOf 4 = .ok (.iload_n 2, 1) := by decide +kernel
theorem dX5_bitsOf_5 : decode cX5_bitsOf 5 = .ok (.ifCond .le 16, 3) := by decide +kernel
theorem dX5_bitsOf_8 : decode cX5_bitsOf 8 = .ok (.iload_n 1, 1) := by decide +kernel
theorem dX5_bitsOf_9 : decode cX5_bitsOf 9 = .ok (.iload_n 2, 1) := by decide +kernel
theorem dX5_bitsOf_10 : decode cX5_bitsOf 10 = .ok (.iconst 1, 1) := by decide +kernel
theorem dX5_bitsOf_11 : decode cX5_bitsOf 11 = .ok (.iand, 1) := by decide +kernel
theorem dX5_bitsOf_12 : decode cX5_bitsOf 12 = .ok (.iadd, 1) := by decide +kernel
theorem dX5_bitsOf_13 : decode cX5_bitsOf 13 = .ok (.istore_n 1, 1) := by decide +kernel
theorem dX5_bitsOf_14 : decode cX5_bitsOf 14 = .ok (.iload_n 2, 1) := by decide +kernel
theorem dX5_bitsOf_15 : decode cX5_bitsOf 15 = .ok (.iconst 1, 1) := by decide +kernel
theorem dX5_bitsOf_16 : decode cX5_bitsOf 16 = .ok (.ishr, 1) := by decide +kernel
theorem dX5_bitsOf_17 : decode cX5_bitsOf 17 = .ok (.istore_n 2, 1) := by decide +kernel
theorem dX5_bitsOf_18 : decode cX5_bitsOf 18 = .ok (.goto (-14), 3) := by decide +kernel
theorem dX5_bitsOf_21 : decode cX5_bitsOf 21 = .ok (.iload_n 1, 1) := by decide +kernel
theorem dX5_bitsOf_22 : decode cX5_bitsOf 22 = .ok (.ireturn, 1) := by decide +kernel
theorem dX5_rule_0 : decode cX5_rule 0 = .ok (.iconst 0, 1) := by decide +kernel
theorem dX5_rule_1 : decode cX5_rule 1 = .ok (.istore_n 2, 1) := by decide +kernel
theorem dX5_rule_2 : decode cX5_rule 2 = .ok (.iconst 0, 1) := by decide +kernel
theorem dX5_rule_3 : decode cX5_rule 3 = .ok (.istore_n 3, 1) := by decide +kernel
theorem dX5_rule_4 : decode cX5_rule 4 = .ok (.iload_n 3, 1) := by decide +kernel
theorem dX5_rule_5 : decode cX5_rule 5 = .ok (.aload_n 0, 1) := by decide +kernel
theorem dX5_rule_6 : decode cX5_rule 6 = .ok (.getfield 131, 3) := by decide +kernel
theorem dX5_rule_9 : decode cX5_rule 9 = .ok (.if_icmp .ge 28, 3) := by decide +kernel
theorem dX5_rule_12 : decode cX5_rule 12 = .ok (.iload_n 2, 1) := by decide +kernel
theorem dX5_rule_13 : decode cX5_rule 13 = .ok (.aload_n 0, 1) := by decide +kernel
theorem dX5_rule_14 : decode cX5_rule 14 = .ok (.iconst 0, 1) := by decide +kernel
theorem dX5_rule_15 : decode cX5_rule 15 = .ok (.iload_n 3, 1) := by decide +kernel
theorem dX5_rule_16 : decode cX5_rule 16 = .ok (.invokevirtual 176, 3) := by decide +kernel
theorem dX5_rule_19 : decode cX5_rule 19 = .ok (.ifCond .eq 9, 3) := by decide +kernel
theorem dX5_rule_22 : decode cX5_rule 22 = .ok (.iconst 1, 1) := by decide +kernel
theorem dX5_rule_23 : decode cX5_rule 23 = .ok (.iload_n 3, 1) := by decide +kernel
theorem dX5_rule_24 : decode cX5_rule 24 = .ok (.ishl, 1) := by decide +kernel
theorem dX5_rule_25 : decode cX5_rule 25 = .ok (.goto 4, 3) := by decide +kernel
theorem dX5_rule_28 : decode cX5_rule 28 = .ok (.iconst 0, 1) := by decide +kernel
theorem dX5_rule_29 : decode cX5_rule 29 = .ok (.ior, 1) := by decide +kernel
theorem dX5_rule_30 : decode cX5_rule 30 = .ok (.istore_n 2, 1) := by decide +kernel
theorem dX5_rule_31 : decode cX5_rule 31 = .ok (.iinc 3 1, 3) := by decide +kernel
theorem dX5_rule_34 : decode cX5_rule 34 = .ok (.goto (-30), 3) := by decide +kernel
theorem dX5_rule_37 : decode cX5_rule 37 = .ok (.iload_n 1, 1) := by decide +kernel
theorem dX5_rule_38 : decode cX5_rule 38 = .ok (.tableswitch 90 0 6 #[42, 47, 55, 63, 71, 82, 88], 42) := by decide +kernel
theorem dX5_rule_80 : decode cX5_rule 80 = .ok (.aload_n 0, 1) := by decide +kernel
theorem dX5_rule_81 : decode cX5_rule 81 = .ok (.getfield 131, 3) := by decide +kernel
theorem dX5_rule_84 : decode cX5_rule 84 = .ok (.ireturn, 1) := by decide +kernel
theorem dX5_rule_85 : decode cX5_rule 85 = .ok (.aload_n 0, 1) := by decide +kernel
theorem dX5_rule_86 : decode cX5_rule 86 = .ok (.getfield 7, 3) := by decide +kernel
theorem dX5_rule_89 : decode cX5_rule 89 = .ok (.bipush 52, 2) := by decide +kernel
theorem dX5_rule_91 : decode cX5_rule 91 = .ok (.iaload, 1) := by decide +kernel
theorem dX5_rule_92 : decode cX5_rule 92 = .ok (.ireturn, 1) := by decide +kernel
theorem dX5_rule_93 : decode cX5_rule 93 = .ok (.aload_n 0, 1) := by decide +kernel
theorem dX5_rule_94 : decode cX5_rule 94 = .ok (.getfield 7, 3) := by decide +kernel
theorem dX5_rule_97 : decode cX5_rule 97 = .ok (.bipush 53, 2) := by decide +kernel
theorem dX5_rule_99 : decode cX5_rule 99 = .ok (.iaload, 1) := by decide +kernel
theorem dX5_rule_100 : decode cX5_rule 100 = .ok (.ireturn, 1) := by decide +kernel
theorem dX5_rule_101 : decode cX5_rule 101 = .ok (.aload_n 0, 1) := by decide +kernel
theorem dX5_rule_102 : decode cX5_rule 102 = .ok (.getfield 7, 3) := by decide +kernel
theorem dX5_rule_105 : decode cX5_rule 105 = .ok (.bipush 54, 2) := by decide +kernel
theorem dX5_rule_107 : decode cX5_rule 107 = .ok (.iaload, 1) := by decide +kernel
theorem dX5_rule_108 : decode cX5_rule 108 = .ok (.ireturn, 1) := by decide +kernel
theorem dX5_rule_109 : decode cX5_rule 109 = .ok (.aload_n 0, 1) := by decide +kernel
theorem dX5_rule_110 : decode cX5_rule 110 = .ok (.getfield 7, 3) := by decide +kernel
theorem dX5_rule_113 : decode cX5_rule 113 = .ok (.bipush 15, 2) := by decide +kernel
theorem dX5_rule_115 : decode cX5_rule 115 = .ok (.iaload, 1) := by decide +kernel
theorem dX5_rule_116 : decode cX5_rule 116 = .ok (.bipush 25, 2) := by decide +kernel
theorem dX5_rule_118 : decode cX5_rule 118 = .ok (.iadd, 1) := by decide +kernel
theorem dX5_rule_119 : decode cX5_rule 119 = .ok (.ireturn, 1) := by decide +kernel
theorem dX5_rule_120 : decode cX5_rule 120 = .ok (.aload_n 0, 1) := by decide +kernel
theorem dX5_rule_121 : decode cX5_rule 121 = .ok (.iconst 0, 1) := by decide +kernel
theorem dX5_rule_122 : decode cX5_rule 122 = .ok (.invokevirtual 179, 3) := by decide +kernel
theorem dX5_rule_125 : decode cX5_rule 125 = .ok (.ireturn, 1) := by decide +kernel
theorem dX5_rule_126 : decode cX5_rule 126 = .ok (.iload_n 2, 1) := by decide +kernel
theorem dX5_rule_127 : decode cX5_rule 127 = .ok (.ireturn, 1) := by decide +kernel
theorem dX5_rule_128 : decode cX5_rule 128 = .ok (.iconst (-1), 1) := by decide +kernel
theorem dX5_rule_129 : decode cX5_rule 129 = .ok (.ireturn, 1) := by decide +kernel
theorem dX5_rider_0 : decode cX5_rider 0 = .ok (.aload_n 0, 1) := by decide +kernel
theorem dX5_rider_1 : decode cX5_rider 1 = .ok (.iload_n 1, 1) := by decide +kernel
theorem dX5_rider_2 : decode cX5_rider 2 = .ok (.invokevirtual 182, 3) := by decide +kernel
theorem dX5_rider_5 : decode cX5_rider 5 = .ok (.ifCond .eq 15, 3) := by decide +kernel
theorem dX5_rider_8 : decode cX5_rider 8 = .ok (.iload_n 2, 1) := by decide +kernel
theorem dX5_rider_9 : decode cX5_rider 9 = .ok (.i2l, 1) := by decide +kernel
theorem dX5_rider_10 : decode cX5_rider 10 = .ok (.lconst 0, 1) := by decide +kernel
theorem dX5_rider_11 : decode cX5_rider 11 = .ok (.ldc2_w 186, 3) := by decide +kernel
theorem dX5_rider_14 : decode cX5_rider 14 = .ok (.invokestatic 46, 3) := by decide +kernel
theorem dX5_rider_17 : decode cX5_rider 17 = .ok (.ifCond .ne 5, 3) := by decide +kernel
theorem dX5_rider_20 : decode cX5_rider 20 = .ok (.iconst (-1), 1) := by decide +kernel
theorem dX5_rider_21 : decode cX5_rider 21 = .ok (.ireturn, 1) := by decide +kernel
theorem dX5_rider_22 : decode cX5_rider 22 = .ok (.iload_n 2, 1) := by decide +kernel
theorem dX5_rider_23 : decode cX5_rider 23 = .ok (.iconst 3, 1) := by decide +kernel
theorem dX5_rider_24 : decode cX5_rider 24 = .ok (.if_icmp .ge 16, 3) := by decide +kernel
theorem dX5_rider_27 : decode cX5_rider 27 = .ok (.aload_n 0, 1) := by decide +kernel
theorem dX5_rider_28 : decode cX5_rider 28 = .ok (.getfield 7, 3) := by decide +kernel
theorem dX5_rider_31 : decode cX5_rider 31 = .ok (.iconst 5, 1) := by decide +kernel
theorem dX5_rider_32 : decode cX5_rider 32 = .ok (.iload_n 2, 1) := by decide +kernel
theorem dX5_rider_33 : decode cX5_rider 33 = .ok (.imul, 1) := by decide +kernel
theorem dX5_rider_34 : decode cX5_rider 34 = .ok (.iload_n 1, 1) := by decide +kernel
theorem dX5_rider_35 : decode cX5_rider 35 = .ok (.iadd, 1) := by decide +kernel
theorem dX5_rider_36 : decode cX5_rider 36 = .ok (.iaload, 1) := by decide +kernel
theorem dX5_rider_37 : decode cX5_rider 37 = .ok (.goto 52, 3) := by decide +kernel
theorem dX5_rider_40 : decode cX5_rider 40 = .ok (.iload_n 2, 1) := by decide +kernel
theorem dX5_rider_41 : decode cX5_rider 41 = .ok (.iconst 3, 1) := by decide +kernel
theorem dX5_rider_42 : decode cX5_rider 42 = .ok (.if_icmp .ne 12, 3) := by decide +kernel
theorem dX5_rider_45 : decode cX5_rider 45 = .ok (.aload_n 0, 1) := by decide +kernel
theorem dX5_rider_46 : decode cX5_rider 46 = .ok (.iconst 0, 1) := by decide +kernel
theorem dX5_rider_47 : decode cX5_rider 47 = .ok (.iload_n 1, 1) := by decide +kernel
theorem dX5_rider_48 : decode cX5_rider 48 = .ok (.invokevirtual 160, 3) := by decide +kernel
theorem dX5_rider_51 : decode cX5_rider 51 = .ok (.goto 38, 3) := by decide +kernel
theorem dX5_rider_54 : decode cX5_rider 54 = .ok (.iload_n 2, 1) := by decide +kernel
theorem dX5_rider_55 : decode cX5_rider 55 = .ok (.iconst 4, 1) := by decide +kernel
theorem dX5_rider_56 : decode cX5_rider 56 = .ok (.if_icmp .ne 19, 3) := by decide +kernel
theorem dX5_rider_59 : decode cX5_rider 59 = .ok (.aload_n 0, 1) := by decide +kernel
theorem dX5_rider_60 : decode cX5_rider 60 = .ok (.iconst 0, 1) := by decide +kernel
theorem dX5_rider_61 : decode cX5_rider 61 = .ok (.iload_n 1, 1) := by decide +kernel
theorem dX5_rider_62 : decode cX5_rider 62 = .ok (.aload_n 0, 1) := by decide +kernel
theorem dX5_rider_63 : decode cX5_rider 63 = .ok (.getfield 7, 3) := by decide +kernel
theorem dX5_rider_66 : decode cX5_rider 66 = .ok (.bipush 53, 2) := by decide +kernel
theorem dX5_rider_68 : decode cX5_rider 68 = .ok (.iaload, 1) := by decide +kernel
theorem dX5_rider_69 : decode cX5_rider 69 = .ok (.invokevirtual 156, 3) := by decide +kernel
theorem dX5_rider_72 : decode cX5_rider 72 = .ok (.goto 17, 3) := by decide +kernel
theorem dX5_rider_75 : decode cX5_rider 75 = .ok (.aload_n 0, 1) := by decide +kernel
theorem dX5_rider_76 : decode cX5_rider 76 = .ok (.iconst 0, 1) := by decide +kernel
theorem dX5_rider_77 : decode cX5_rider 77 = .ok (.iload_n 1, 1) := by decide +kernel
theorem dX5_rider_78 : decode cX5_rider 78 = .ok (.invokevirtual 176, 3) := by decide +kernel
theorem dX5_rider_81 : decode cX5_rider 81 = .ok (.ifCond .eq 7, 3) := by decide +kernel
theorem dX5_rider_84 : decode cX5_rider 84 = .ok (.iconst 1, 1) := by decide +kernel
theorem dX5_rider_85 : decode cX5_rider 85 = .ok (.goto 4, 3) := by decide +kernel
theorem dX5_rider_88 : decode cX5_rider 88 = .ok (.iconst 0, 1) := by decide +kernel
theorem dX5_rider_89 : decode cX5_rider 89 = .ok (.ireturn, 1) := by decide +kernel
theorem dX5_report_0 : decode cX5_report 0 = .ok (.aload_n 0, 1) := by decide +kernel
theorem dX5_report_1 : decode cX5_report 1 = .ok (.iload_n 1, 1) := by decide +kernel
theorem dX5_report_2 : decode cX5_report 2 = .ok (.invokevirtual 188, 3) := by decide +kernel
theorem dX5_report_5 : decode cX5_report 5 = .ok (.ifCond .eq 32, 3) := by decide +kernel
theorem dX5_report_8 : decode cX5_report 8 = .ok (.iload_n 2, 1) := by decide +kernel
theorem dX5_report_9 : decode cX5_report 9 = .ok (.i2l, 1) := by decide +kernel
theorem dX5_report_10 : decode cX5_report 10 = .ok (.lconst 0, 1) := by decide +kernel
theorem dX5_report_11 : decode cX5_report 11 = .ok (.ldc2_w 91, 3) := by decide +kernel
theorem dX5_report_14 : decode cX5_report 14 = .ok (.invokestatic 46, 3) := by decide +kernel
theorem dX5_report_17 : decode cX5_report 17 = .ok (.ifCond .eq 20, 3) := by decide +kernel
theorem dX5_report_20 : decode cX5_report 20 = .ok (.aload_n 0, 1) := by decide +kernel
theorem dX5_report_21 : decode cX5_report 21 = .ok (.getfield 7, 3) := by decide +kernel
theorem dX5_report_24 : decode cX5_report 24 = .ok (.bipush 20, 2) := by decide +kernel
theorem dX5_report_26 : decode cX5_report 26 = .ok (.bipush 8, 2) := by decide +kernel
theorem dX5_report_28 : decode cX5_report 28 = .ok (.iload_n 2, 1) := by decide +kernel
theorem dX5_report_29 : decode cX5_report 29 = .ok (.imul, 1) := by decide +kernel
theorem dX5_report_30 : decode cX5_report 30 = .ok (.iadd, 1) := by decide +kernel
theorem dX5_report_31 : decode cX5_report 31 = .ok (.iload_n 1, 1) := by decide +kernel
theorem dX5_report_32 : decode cX5_report 32 = .ok (.iadd, 1) := by decide +kernel
theorem dX5_report_33 : decode cX5_report 33 = .ok (.iaload, 1) := by decide +kernel
theorem dX5_report_34 : decode cX5_report 34 = .ok (.goto 4, 3) := by decide +kernel
theorem dX5_report_37 : decode cX5_report 37 = .ok (.iconst (-1), 1) := by decide +kernel
theorem dX5_report_38 : decode cX5_report 38 = .ok (.ireturn, 1) := by decide +kernel
theorem dX5_trust_0 : decode cX5_trust 0 = .ok (.iload_n 1, 1) := by decide +kernel
theorem dX5_trust_1 : decode cX5_trust 1 = .ok (.invokestatic 191, 3) := by decide +kernel
theorem dX5_trust_4 : decode cX5_trust 4 = .ok (.ifCond .eq 17, 3) := by decide +kernel
theorem dX5_trust_7 : decode cX5_trust 7 = .ok (.aload_n 0, 1) := by decide +kernel
theorem dX5_trust_8 : decode cX5_trust 8 = .ok (.getfield 7, 3) := by decide +kernel
theorem dX5_trust_11 : decode cX5_trust 11 = .ok (.bipush 16, 2) := by decide +kernel
theorem dX5_trust_13 : decode cX5_trust 13 = .ok (.iload_n 1, 1) := by decide +kernel
theorem dX5_trust_14 : decode cX5_trust 14 = .ok (.iadd, 1) := by decide +kernel
theorem dX5_trust_15 : decode cX5_trust 15 = .ok (.iaload, 1) := by decide +kernel
theorem dX5_trust_16 : decode cX5_trust 16 = .ok (.iconst 1, 1) := by decide +kernel
theorem dX5_trust_17 : decode cX5_trust 17 = .ok (.iadd, 1) := by decide +kernel
theorem dX5_trust_18 : decode cX5_trust 18 = .ok (.goto 4, 3) := by decide +kernel
theorem dX5_trust_21 : decode cX5_trust 21 = .ok (.iconst (-1), 1) := by decide +kernel
theorem dX5_trust_22 : decode cX5_trust 22 = .ok (.ireturn, 1) := by decide +kernel
theorem dX5_told_0 : decode cX5_told 0 = .ok (.aload_n 0, 1) := by decide +kernel
theorem dX5_told_1 : decode cX5_told 1 = .ok (.iload_n 1, 1) := by decide +kernel
theorem dX5_told_2 : decode cX5_told 2 = .ok (.invokevirtual 182, 3) := by decide +kernel
theorem dX5_told_5 : decode cX5_told 5 = .ok (.ifCond .eq 28, 3) := by decide +kernel
theorem dX5_told_8 : decode cX5_told 8 = .ok (.iload_n 2, 1) := by decide +kernel
theorem dX5_told_9 : decode cX5_told 9 = .ok (.invokestatic 194, 3) := by decide +kernel
theorem dX5_told_12 : decode cX5_told 12 = .ok (.ifCond .eq 21, 3) := by decide +kernel
theorem dX5_told_15 : decode cX5_told 15 = .ok (.iload_n 3, 1) := by decide +kernel
theorem dX5_told_16 : decode cX5_told 16 = .ok (.invokestatic 197, 3) := by decide +kernel
theorem dX5_told_19 : decode cX5_told 19 = .ok (.ifCond .eq 14, 3) := by decide +kernel
theorem dX5_told_22 : decode cX5_told 22 = .ok (.aload_n 0, 1) := by decide +kernel
theorem dX5_told_23 : decode cX5_told 23 = .ok (.iconst 0, 1) := by decide +kernel
theorem dX5_told_24 : decode cX5_told 24 = .ok (.iload_n 1, 1) := by decide +kernel
theorem dX5_told_25 : decode cX5_told 25 = .ok (.iload_n 2, 1) := by decide +kernel
theorem dX5_told_26 : decode cX5_told 26 = .ok (.iload_n 3, 1) := by decide +kernel
theorem dX5_told_27 : decode cX5_told 27 = .ok (.invokevirtual 152, 3) := by decide +kernel
theorem dX5_told_30 : decode cX5_told 30 = .ok (.goto 4, 3) := by decide +kernel
theorem dX5_told_33 : decode cX5_told 33 = .ok (.iconst (-1), 1) := by decide +kernel
theorem dX5_told_34 : decode cX5_told 34 = .ok (.ireturn, 1) := by decide +kernel
theorem dX5_puts_0 : decode cX5_puts 0 = .ok (.iload_n 1, 1) := by decide +kernel
theorem dX5_puts_1 : decode cX5_puts 1 = .ok (.ifCond .ne 5, 3) := by decide +kernel
theorem dX5_puts_4 : decode cX5_puts 4 = .ok (.iconst (-1), 1) := by decide +kernel
theorem dX5_puts_5 : decode cX5_puts 5 = .ok (.ireturn, 1) := by decide +kernel
theorem dX5_puts_6 : decode cX5_puts 6 = .ok (.aload_n 0, 1) := by decide +kernel
theorem dX5_puts_7 : decode cX5_puts 7 = .ok (.getfield 7, 3) := by decide +kernel
theorem dX5_puts_10 : decode cX5_puts 10 = .ok (.iload_n 2, 1) := by decide +kernel
theorem dX5_puts_11 : decode cX5_puts 11 = .ok (.iaload, 1) := by decide +kernel
theorem dX5_puts_12 : decode cX5_puts 12 = .ok (.iload 4, 2) := by decide +kernel
theorem dX5_puts_14 : decode cX5_puts 14 = .ok (.iadd, 1) := by decide +kernel
theorem dX5_puts_15 : decode cX5_puts 15 = .ok (.istore 5, 2) := by decide +kernel
theorem dX5_puts_17 : decode cX5_puts 17 = .ok (.aload_n 0, 1) := by decide +kernel
theorem dX5_puts_18 : decode cX5_puts 18 = .ok (.getfield 7, 3) := by decide +kernel
theorem dX5_puts_21 : decode cX5_puts 21 = .ok (.iload_n 2, 1) := by decide +kernel
theorem dX5_puts_22 : decode cX5_puts 22 = .ok (.iload_n 3, 1) := by decide +kernel
theorem dX5_puts_23 : decode cX5_puts 23 = .ok (.iload 4, 2) := by decide +kernel
theorem dX5_puts_25 : decode cX5_puts 25 = .ok (.isub, 1) := by decide +kernel
theorem dX5_puts_26 : decode cX5_puts 26 = .ok (.iastore, 1) := by decide +kernel
theorem dX5_puts_27 : decode cX5_puts 27 = .ok (.iload 5, 2) := by decide +kernel
theorem dX5_puts_29 : decode cX5_puts 29 = .ok (.ireturn, 1) := by decide +kernel
theorem dX5_alter_0 : decode cX5_alter 0 = .ok (.iload_n 2, 1) := by decide +kernel
theorem dX5_alter_1 : decode cX5_alter 1 = .ok (.ifCond .ne 15, 3) := by decide +kernel
theorem dX5_alter_4 : decode cX5_alter 4 = .ok (.iload_n 3, 1) := by decide +kernel
theorem dX5_alter_5 : decode cX5_alter 5 = .ok (.i2l, 1) := by decide +kernel
theorem dX5_alter_6 : decode cX5_alter 6 = .ok (.lconst 0, 1) := by decide +kernel
theorem dX5_alter_7 : decode cX5_alter 7 = .ok (.ldc2_w 91, 3) := by decide +kernel
theorem dX5_alter_10 : decode cX5_alter 10 = .ok (.invokestatic 46, 3) := by decide +kernel
theorem dX5_alter_13 : decode cX5_alter 13 = .ok (.goto 42, 3) := by decide +kernel
theorem dX5_alter_16 : decode cX5_alter 16 = .ok (.iload_n 2, 1) := by decide +kernel
theorem dX5_alter_17 : decode cX5_alter 17 = .ok (.iconst 1, 1) := by decide +kernel
theorem dX5_alter_18 : decode cX5_alter 18 = .ok (.if_icmp .ne 15, 3) := by decide +kernel
theorem dX5_alter_21 : decode cX5_alter 21 = .ok (.iload_n 3, 1) := by decide +kernel
theorem dX5_alter_22 : decode cX5_alter 22 = .ok (.i2l, 1) := by decide +kernel
theorem dX5_alter_23 : decode cX5_alter 23 = .ok (.lconst 0, 1) := by decide +kernel
theorem dX5_alter_24 : decode cX5_alter 24 = .ok (.ldc2_w 200, 3) := by decide +kernel
theorem dX5_alter_27 : decode cX5_alter 27 = .ok (.invokestatic 46, 3) := by decide +kernel
theorem dX5_alter_30 : decode cX5_alter 30 = .ok (.goto 25, 3) := by decide +kernel
theorem dX5_alter_33 : decode cX5_alter 33 = .ok (.iload_n 2, 1) := by decide +kernel
theorem dX5_alter_34 : decode cX5_alter 34 = .ok (.iconst 2, 1) := by decide +kernel
theorem dX5_alter_35 : decode cX5_alter 35 = .ok (.if_icmp .ne 19, 3) := by decide +kernel
theorem dX5_alter_38 : decode cX5_alter 38 = .ok (.iload_n 3, 1) := by decide +kernel
theorem dX5_alter_39 : decode cX5_alter 39 = .ok (.i2l, 1) := by decide +kernel
theorem dX5_alter_40 : decode cX5_alter 40 = .ok (.lconst 1, 1) := by decide +kernel
theorem dX5_alter_41 : decode cX5_alter 41 = .ok (.ldc2_w 137, 3) := by decide +kernel
theorem dX5_alter_44 : decode cX5_alter 44 = .ok (.invokestatic 46, 3) := by decide +kernel
theorem dX5_alter_47 : decode cX5_alter 47 = .ok (.ifCond .eq 7, 3) := by decide +kernel
theorem dX5_alter_50 : decode cX5_alter 50 = .ok (.iconst 1, 1) := by decide +kernel
theorem dX5_alter_51 : decode cX5_alter 51 = .ok (.goto 4, 3) := by decide +kernel
theorem dX5_alter_54 : decode cX5_alter 54 = .ok (.iconst 0, 1) := by decide +kernel
theorem dX5_alter_55 : decode cX5_alter 55 = .ok (.istore 4, 2) := by decide +kernel
theorem dX5_alter_57 : decode cX5_alter 57 = .ok (.aload_n 0, 1) := by decide +kernel
theorem dX5_alter_58 : decode cX5_alter 58 = .ok (.aload_n 0, 1) := by decide +kernel
theorem dX5_alter_59 : decode cX5_alter 59 = .ok (.iload_n 1, 1) := by decide +kernel
theorem dX5_alter_60 : decode cX5_alter 60 = .ok (.invokevirtual 182, 3) := by decide +kernel
theorem dX5_alter_63 : decode cX5_alter 63 = .ok (.ifCond .eq 12, 3) := by decide +kernel
theorem dX5_alter_66 : decode cX5_alter 66 = .ok (.iload 4, 2) := by decide +kernel
theorem dX5_alter_68 : decode cX5_alter 68 = .ok (.ifCond .eq 7, 3) := by decide +kernel
theorem dX5_alter_71 : decode cX5_alter 71 = .ok (.iconst 1, 1) := by decide +kernel
theorem dX5_alter_72 : decode cX5_alter 72 = .ok (.goto 4, 3) := by decide +kernel
theorem dX5_alter_75 : decode cX5_alter 75 = .ok (.iconst 0, 1) := by decide +kernel
theorem dX5_alter_76 : decode cX5_alter 76 = .ok (.iconst 5, 1) := by decide +kernel
theorem dX5_alter_77 : decode cX5_alter 77 = .ok (.iload_n 2, 1) := by decide +kernel
theorem dX5_alter_78 : decode cX5_alter 78 = .ok (.imul, 1) := by decide +kernel
theorem dX5_alter_79 : decode cX5_alter 79 = .ok (.iload_n 1, 1) := by decide +kernel
theorem dX5_alter_80 : decode cX5_alter 80 = .ok (.iadd, 1) := by decide +kernel
theorem dX5_alter_81 : decode cX5_alter 81 = .ok (.iload_n 3, 1) := by decide +kernel
theorem dX5_alter_82 : decode cX5_alter 82 = .ok (.iconst 0, 1) := by decide +kernel
theorem dX5_alter_83 : decode cX5_alter 83 = .ok (.invokevirtual 202, 3) := by decide +kernel
theorem dX5_alter_86 : decode cX5_alter 86 = .ok (.ireturn, 1) := by decide +kernel
theorem dX5_rely_0 : decode cX5_rely 0 = .ok (.aload_n 0, 1) := by decide +kernel
theorem dX5_rely_1 : decode cX5_rely 1 = .ok (.iload_n 1, 1) := by decide +kernel
theorem dX5_rely_2 : decode cX5_rely 2 = .ok (.invokestatic 191, 3) := by decide +kernel
theorem dX5_rely_5 : decode cX5_rely 5 = .ok (.ifCond .eq 19, 3) := by decide +kernel
theorem dX5_rely_8 : decode cX5_rely 8 = .ok (.iload_n 2, 1) := by decide +kernel
theorem dX5_rely_9 : decode cX5_rely 9 = .ok (.i2l, 1) := by decide +kernel
theorem dX5_rely_10 : decode cX5_rely 10 = .ok (.lconst 0, 1) := by decide +kernel
theorem dX5_rely_11 : decode cX5_rely 11 = .ok (.ldc2_w 206, 3) := by decide +kernel
theorem dX5_rely_14 : decode cX5_rely 14 = .ok (.invokestatic 46, 3) := by decide +kernel
theorem dX5_rely_17 : decode cX5_rely 17 = .ok (.ifCond .eq 7, 3) := by decide +kernel
theorem dX5_rely_20 : decode cX5_rely 20 = .ok (.iconst 1, 1) := by decide +kernel
theorem dX5_rely_21 : decode cX5_rely 21 = .ok (.goto 4, 3) := by decide +kernel
theorem dX5_rely_24 : decode cX5_rely 24 = .ok (.iconst 0, 1) := by decide +kernel
theorem dX5_rely_25 : decode cX5_rely 25 = .ok (.bipush 16, 2) := by decide +kernel
theorem dX5_rely_27 : decode cX5_rely 27 = .ok (.iload_n 1, 1) := by decide +kernel
theorem dX5_rely_28 : decode cX5_rely 28 = .ok (.iadd, 1) := by decide +kernel
theorem dX5_rely_29 : decode cX5_rely 29 = .ok (.iload_n 2, 1) := by decide +kernel
theorem dX5_rely_30 : decode cX5_rely 30 = .ok (.iconst 1, 1) := by decide +kernel
theorem dX5_rely_31 : decode cX5_rely 31 = .ok (.invokevirtual 202, 3) := by decide +kernel
theorem dX5_rely_34 : decode cX5_rely 34 = .ok (.ireturn, 1) := by decide +kernel
theorem dX5_cast_0 : decode cX5_cast 0 = .ok (.aload_n 0, 1) := by decide +kernel
theorem dX5_cast_1 : decode cX5_cast 1 = .ok (.iload_n 1, 1) := by decide +kernel
theorem dX5_cast_2 : decode cX5_cast 2 = .ok (.i2l, 1) := by decide +kernel
theorem dX5_cast_3 : decode cX5_cast 3 = .ok (.lconst 1, 1) := by decide +kernel
theorem dX5_cast_4 : decode cX5_cast 4 = .ok (.ldc2_w 137, 3) := by decide +kernel
theorem dX5_cast_7 : decode cX5_cast 7 = .ok (.invokestatic 46, 3) := by decide +kernel
theorem dX5_cast_10 : decode cX5_cast 10 = .ok (.bipush 15, 2) := by decide +kernel
theorem dX5_cast_12 : decode cX5_cast 12 = .ok (.iload_n 1, 1) := by decide +kernel
theorem dX5_cast_13 : decode cX5_cast 13 = .ok (.bipush 25, 2) := by decide +kernel
theorem dX5_cast_15 : decode cX5_cast 15 = .ok (.invokevirtual 202, 3) := by decide +kernel
theorem dX5_cast_18 : decode cX5_cast 18 = .ok (.ireturn, 1) := by decide +kernel
theorem dX5_sends_0 : decode cX5_sends 0 = .ok (.iload_n 1, 1) := by decide +kernel
theorem dX5_sends_1 : decode cX5_sends 1 = .ok (.invokestatic 197, 3) := by decide +kernel
theorem dX5_sends_4 : decode cX5_sends 4 = .ok (.ifCond .eq 26, 3) := by decide +kernel
theorem dX5_sends_7 : decode cX5_sends 7 = .ok (.iload_n 2, 1) := by decide +kernel
theorem dX5_sends_8 : decode cX5_sends 8 = .ok (.invokestatic 191, 3) := by decide +kernel
theorem dX5_sends_11 : decode cX5_sends 11 = .ok (.ifCond .eq 19, 3) := by decide +kernel
theorem dX5_sends_14 : decode cX5_sends 14 = .ok (.aload_n 0, 1) := by decide +kernel
theorem dX5_sends_15 : decode cX5_sends 15 = .ok (.iload_n 3, 1) := by decide +kernel
theorem dX5_sends_16 : decode cX5_sends 16 = .ok (.invokevirtual 182, 3) := by decide +kernel
theorem dX5_sends_19 : decode cX5_sends 19 = .ok (.ifCond .eq 11, 3) := by decide +kernel
theorem dX5_sends_22 : decode cX5_sends 22 = .ok (.iload 4, 2) := by decide +kernel
theorem dX5_sends_24 : decode cX5_sends 24 = .ok (.invokestatic 194, 3) := by decide +kernel
theorem dX5_sends_27 : decode cX5_sends 27 = .ok (.ifCond .ne 5, 3) := by decide +kernel
theorem dX5_sends_30 : decode cX5_sends 30 = .ok (.iconst (-1), 1) := by decide +kernel
theorem dX5_sends_31 : decode cX5_sends 31 = .ok (.ireturn, 1) := by decide +kernel
theorem dX5_sends_32 : decode cX5_sends 32 = .ok (.aload_n 0, 1) := by decide +kernel
theorem dX5_sends_33 : decode cX5_sends 33 = .ok (.getfield 7, 3) := by decide +kernel
theorem dX5_sends_36 : decode cX5_sends 36 = .ok (.bipush 52, 2) := by decide +kernel
theorem dX5_sends_38 : decode cX5_sends 38 = .ok (.iaload, 1) := by decide +kernel
theorem dX5_sends_39 : decode cX5_sends 39 = .ok (.istore 5, 2) := by decide +kernel
theorem dX5_sends_41 : decode cX5_sends 41 = .ok (.iload 5, 2) := by decide +kernel
theorem dX5_sends_43 : decode cX5_sends 43 = .ok (.bipush 8, 2) := by decide +kernel
theorem dX5_sends_45 : decode cX5_sends 45 = .ok (.if_icmp .ne 6, 3) := by decide +kernel
theorem dX5_sends_48 : decode cX5_sends 48 = .ok (.bipush (-3), 2) := by decide +kernel
theorem dX5_sends_50 : decode cX5_sends 50 = .ok (.ireturn, 1) := by decide +kernel
theorem dX5_sends_51 : decode cX5_sends 51 = .ok (.aload_n 0, 1) := by decide +kernel
theorem dX5_sends_52 : decode cX5_sends 52 = .ok (.getfield 7, 3) := by decide +kernel
theorem dX5_sends_55 : decode cX5_sends 55 = .ok (.bipush 20, 2) := by decide +kernel
theorem dX5_sends_57 : decode cX5_sends 57 = .ok (.iload 5, 2) := by decide +kernel
theorem dX5_sends_59 : decode cX5_sends 59 = .ok (.iadd, 1) := by decide +kernel
theorem dX5_sends_60 : decode cX5_sends 60 = .ok (.iload_n 1, 1) := by decide +kernel
theorem dX5_sends_61 : decode cX5_sends 61 = .ok (.iastore, 1) := by decide +kernel
theorem dX5_sends_62 : decode cX5_sends 62 = .ok (.aload_n 0, 1) := by decide +kernel
theorem dX5_sends_63 : decode cX5_sends 63 = .ok (.getfield 7, 3) := by decide +kernel
theorem dX5_sends_66 : decode cX5_sends 66 = .ok (.bipush 28, 2) := by decide +kernel
theorem dX5_sends_68 : decode cX5_sends 68 = .ok (.iload 5, 2) := by decide +kernel
theorem dX5_sends_70 : decode cX5_sends 70 = .ok (.iadd, 1) := by decide +kernel
theorem dX5_sends_71 : decode cX5_sends 71 = .ok (.iload_n 2, 1) := by decide +kernel
theorem dX5_sends_72 : decode cX5_sends 72 = .ok (.iastore, 1) := by decide +kernel
theorem dX5_sends_73 : decode cX5_sends 73 = .ok (.aload_n 0, 1) := by decide +kernel
theorem dX5_sends_74 : decode cX5_sends 74 = .ok (.getfield 7, 3) := by decide +kernel
theorem dX5_sends_77 : decode cX5_sends 77 = .ok (.bipush 36, 2) := by decide +kernel
theorem dX5_sends_79 : decode cX5_sends 79 = .ok (.iload 5, 2) := by decide +kernel
theorem dX5_sends_81 : decode cX5_sends 81 = .ok (.iadd, 1) := by decide +kernel
theorem dX5_sends_82 : decode cX5_sends 82 = .ok (.iload_n 3, 1) := by decide +kernel
theorem dX5_sends_83 : decode cX5_sends 83 = .ok (.iastore, 1) := by decide +kernel
theorem dX5_sends_84 : decode cX5_sends 84 = .ok (.aload_n 0, 1) := by decide +kernel
theorem dX5_sends_85 : decode cX5_sends 85 = .ok (.getfield 7, 3) := by decide +kernel
theorem dX5_sends_88 : decode cX5_sends 88 = .ok (.bipush 44, 2) := by decide +kernel
theorem dX5_sends_90 : decode cX5_sends 90 = .ok (.iload 5, 2) := by decide +kernel
theorem dX5_sends_92 : decode cX5_sends 92 = .ok (.iadd, 1) := by decide +kernel
theorem dX5_sends_93 : decode cX5_sends 93 = .ok (.iload 4, 2) := by decide +kernel
theorem dX5_sends_95 : decode cX5_sends 95 = .ok (.iastore, 1) := by decide +kernel
theorem dX5_sends_96 : decode cX5_sends 96 = .ok (.aload_n 0, 1) := by decide +kernel
theorem dX5_sends_97 : decode cX5_sends 97 = .ok (.getfield 7, 3) := by decide +kernel
theorem dX5_sends_100 : decode cX5_sends 100 = .ok (.bipush 52, 2) := by decide +kernel
theorem dX5_sends_102 : decode cX5_sends 102 = .ok (.dup2, 1) := by decide +kernel
theorem dX5_sends_103 : decode cX5_sends 103 = .ok (.iaload, 1) := by decide +kernel
theorem dX5_sends_104 : decode cX5_sends 104 = .ok (.iconst 1, 1) := by decide +kernel
theorem dX5_sends_105 : decode cX5_sends 105 = .ok (.iadd, 1) := by decide +kernel
theorem dX5_sends_106 : decode cX5_sends 106 = .ok (.iastore, 1) := by decide +kernel
theorem dX5_sends_107 : decode cX5_sends 107 = .ok (.aload_n 0, 1) := by decide +kernel
theorem dX5_sends_108 : decode cX5_sends 108 = .ok (.getfield 7, 3) := by decide +kernel
theorem dX5_sends_111 : decode cX5_sends 111 = .ok (.bipush 52, 2) := by decide +kernel
theorem dX5_sends_113 : decode cX5_sends 113 = .ok (.iaload, 1) := by decide +kernel
theorem dX5_sends_114 : decode cX5_sends 114 = .ok (.ireturn, 1) := by decide +kernel
theorem dX5_send_0 : decode cX5_send 0 = .ok (.aload_n 0, 1) := by decide +kernel
theorem dX5_send_1 : decode cX5_send 1 = .ok (.iload_n 1, 1) := by decide +kernel
theorem dX5_send_2 : decode cX5_send 2 = .ok (.iload_n 2, 1) := by decide +kernel
theorem dX5_send_3 : decode cX5_send 3 = .ok (.iload_n 3, 1) := by decide +kernel
theorem dX5_send_4 : decode cX5_send 4 = .ok (.iload 4, 2) := by decide +kernel
theorem dX5_send_6 : decode cX5_send 6 = .ok (.invokevirtual 208, 3) := by decide +kernel
theorem dX5_send_9 : decode cX5_send 9 = .ok (.ireturn, 1) := by decide +kernel
theorem dX5_burn_0 : decode cX5_burn 0 = .ok (.aload_n 0, 1) := by decide +kernel
theorem dX5_burn_1 : decode cX5_burn 1 = .ok (.iload_n 1, 1) := by decide +kernel
theorem dX5_burn_2 : decode cX5_burn 2 = .ok (.i2l, 1) := by decide +kernel
theorem dX5_burn_3 : decode cX5_burn 3 = .ok (.lconst 0, 1) := by decide +kernel
theorem dX5_burn_4 : decode cX5_burn 4 = .ok (.aload_n 0, 1) := by decide +kernel
theorem dX5_burn_5 : decode cX5_burn 5 = .ok (.getfield 7, 3) := by decide +kernel
theorem dX5_burn_8 : decode cX5_burn 8 = .ok (.bipush 52, 2) := by decide +kernel
theorem dX5_burn_10 : decode cX5_burn 10 = .ok (.iaload, 1) := by decide +kernel
theorem dX5_burn_11 : decode cX5_burn 11 = .ok (.i2l, 1) := by decide +kernel
theorem dX5_burn_12 : decode cX5_burn 12 = .ok (.invokestatic 46, 3) := by decide +kernel
theorem dX5_burn_15 : decode cX5_burn 15 = .ok (.bipush 52, 2) := by decide +kernel
theorem dX5_burn_17 : decode cX5_burn 17 = .ok (.iload_n 1, 1) := by decide +kernel
theorem dX5_burn_18 : decode cX5_burn 18 = .ok (.iconst 0, 1) := by decide +kernel
theorem dX5_burn_19 : decode cX5_burn 19 = .ok (.invokevirtual 202, 3) := by decide +kernel
theorem dX5_burn_22 : decode cX5_burn 22 = .ok (.ireturn, 1) := by decide +kernel
theorem dX5_days_0 : decode cX5_days 0 = .ok (.iload_n 1, 1) := by decide +kernel
theorem dX5_days_1 : decode cX5_days 1 = .ok (.i2l, 1) := by decide +kernel
theorem dX5_days_2 : decode cX5_days 2 = .ok (.lconst 0, 1) := by decide +kernel
theorem dX5_days_3 : decode cX5_days 3 = .ok (.ldc2_w 211, 3) := by decide +kernel
theorem dX5_days_6 : decode cX5_days 6 = .ok (.invokestatic 46, 3) := by decide +kernel
theorem dX5_days_9 : decode cX5_days 9 = .ok (.ifCond .ne 5, 3) := by decide +kernel
theorem dX5_days_12 : decode cX5_days 12 = .ok (.iconst (-1), 1) := by decide +kernel
theorem dX5_days_13 : decode cX5_days 13 = .ok (.ireturn, 1) := by decide +kernel
theorem dX5_days_14 : decode cX5_days 14 = .ok (.aload_n 0, 1) := by decide +kernel
theorem dX5_days_15 : decode cX5_days 15 = .ok (.getfield 7, 3) := by decide +kernel
theorem dX5_days_18 : decode cX5_days 18 = .ok (.bipush 53, 2) := by decide +kernel
theorem dX5_days_20 : decode cX5_days 20 = .ok (.iaload, 1) := by decide +kernel
theorem dX5_days_21 : decode cX5_days 21 = .ok (.iload_n 1, 1) := by decide +kernel
theorem dX5_days_22 : decode cX5_days 22 = .ok (.iadd, 1) := by decide +kernel
theorem dX5_days_23 : decode cX5_days 23 = .ok (.sipush 999, 3) := by decide +kernel
theorem dX5_days_26 : decode cX5_days 26 = .ok (.if_icmp .le 6, 3) := by decide +kernel
theorem dX5_days_29 : decode cX5_days 29 = .ok (.bipush (-3), 2) := by decide +kernel
theorem dX5_days_31 : decode cX5_days 31 = .ok (.ireturn, 1) := by decide +kernel
theorem dX5_days_32 : decode cX5_days 32 = .ok (.aload_n 0, 1) := by decide +kernel
theorem dX5_days_33 : decode cX5_days 33 = .ok (.iconst 0, 1) := by decide +kernel
theorem dX5_days_34 : decode cX5_days 34 = .ok (.putfield 173, 3) := by decide +kernel
theorem dX5_days_37 : decode cX5_days 37 = .ok (.iconst 0, 1) := by decide +kernel
theorem dX5_days_38 : decode cX5_days 38 = .ok (.istore_n 2, 1) := by decide +kernel
theorem dX5_days_39 : decode cX5_days 39 = .ok (.iload_n 2, 1) := by decide +kernel
theorem dX5_days_40 : decode cX5_days 40 = .ok (.iload_n 1, 1) := by decide +kernel
theorem dX5_days_41 : decode cX5_days 41 = .ok (.if_icmp .ge 14, 3) := by decide +kernel
theorem dX5_days_44 : decode cX5_days 44 = .ok (.aload_n 0, 1) := by decide +kernel
theorem dX5_days_45 : decode cX5_days 45 = .ok (.iconst 0, 1) := by decide +kernel
theorem dX5_days_46 : decode cX5_days 46 = .ok (.invokevirtual 213, 3) := by decide +kernel
theorem dX5_days_49 : decode cX5_days 49 = .ok (.iinc 2 1, 3) := by decide +kernel
theorem dX5_days_52 : decode cX5_days 52 = .ok (.goto (-13), 3) := by decide +kernel
theorem dX5_days_55 : decode cX5_days 55 = .ok (.aload_n 0, 1) := by decide +kernel
theorem dX5_days_56 : decode cX5_days 56 = .ok (.getfield 173, 3) := by decide +kernel
theorem dX5_days_59 : decode cX5_days 59 = .ok (.ireturn, 1) := by decide +kernel
theorem dX5_copies_0 : decode cX5_copies 0 = .ok (.iconst 0, 1) := by decide +kernel
theorem dX5_copies_1 : decode cX5_copies 1 = .ok (.istore_n 3, 1) := by decide +kernel
theorem dX5_copies_2 : decode cX5_copies 2 = .ok (.iload_n 3, 1) := by decide +kernel
theorem dX5_copies_3 : decode cX5_copies 3 = .ok (.bipush 55, 2) := by decide +kernel
theorem dX5_copies_5 : decode cX5_copies 5 = .ok (.if_icmp .ge 25, 3) := by decide +kernel
theorem dX5_copies_8 : decode cX5_copies 8 = .ok (.aload_n 0, 1) := by decide +kernel
theorem dX5_copies_9 : decode cX5_copies 9 = .ok (.getfield 7, 3) := by decide +kernel
theorem dX5_copies_12 : decode cX5_copies 12 = .ok (.iload_n 2, 1) := by decide +kernel
theorem dX5_copies_13 : decode cX5_copies 13 = .ok (.iload_n 3, 1) := by decide +kernel
theorem dX5_copies_14 : decode cX5_copies 14 = .ok (.iadd, 1) := by decide +kernel
theorem dX5_copies_15 : decode cX5_copies 15 = .ok (.aload_n 0, 1) := by decide +kernel
theorem dX5_copies_16 : decode cX5_copies 16 = .ok (.getfield 7, 3) := by decide +kernel
theorem dX5_copies_19 : decode cX5_copies 19 = .ok (.iload_n 1, 1) := by decide +kernel
theorem dX5_copies_20 : decode cX5_copies 20 = .ok (.iload_n 3, 1) := by decide +kernel
theorem dX5_copies_21 : decode cX5_copies 21 = .ok (.iadd, 1) := by decide +kernel
theorem dX5_copies_22 : decode cX5_copies 22 = .ok (.iaload, 1) := by decide +kernel
theorem dX5_copies_23 : decode cX5_copies 23 = .ok (.iastore, 1) := by decide +kernel
theorem dX5_copies_24 : decode cX5_copies 24 = .ok (.iinc 3 1, 3) := by decide +kernel
theorem dX5_copies_27 : decode cX5_copies 27 = .ok (.goto (-25), 3) := by decide +kernel
theorem dX5_copies_30 : decode cX5_copies 30 = .ok (.return_, 1) := by decide +kernel
theorem dX5_daysGo_0 : decode cX5_daysGo 0 = .ok (.aload_n 0, 1) := by decide +kernel
theorem dX5_daysGo_1 : decode cX5_daysGo 1 = .ok (.iload_n 1, 1) := by decide +kernel
theorem dX5_daysGo_2 : decode cX5_daysGo 2 = .ok (.sipush 220, 3) := by decide +kernel
theorem dX5_daysGo_5 : decode cX5_daysGo 5 = .ok (.invokevirtual 216, 3) := by decide +kernel
theorem dX5_daysGo_8 : decode cX5_daysGo 8 = .ok (.aload_n 0, 1) := by decide +kernel
theorem dX5_daysGo_9 : decode cX5_daysGo 9 = .ok (.iconst 0, 1) := by decide +kernel
theorem dX5_daysGo_10 : decode cX5_daysGo 10 = .ok (.putfield 173, 3) := by decide +kernel
theorem dX5_daysGo_13 : decode cX5_daysGo 13 = .ok (.aload_n 0, 1) := by decide +kernel
theorem dX5_daysGo_14 : decode cX5_daysGo 14 = .ok (.iconst 0, 1) := by decide +kernel
theorem dX5_daysGo_15 : decode cX5_daysGo 15 = .ok (.putfield 220, 3) := by decide +kernel
theorem dX5_daysGo_18 : decode cX5_daysGo 18 = .ok (.aload_n 0, 1) := by decide +kernel
theorem dX5_daysGo_19 : decode cX5_daysGo 19 = .ok (.bipush (-4), 2) := by decide +kernel
theorem dX5_daysGo_21 : decode cX5_daysGo 21 = .ok (.putfield 223, 3) := by decide +kernel
theorem dX5_daysGo_24 : decode cX5_daysGo 24 = .ok (.iconst 1, 1) := by decide +kernel
theorem dX5_daysGo_25 : decode cX5_daysGo 25 = .ok (.istore_n 3, 1) := by decide +kernel
theorem dX5_daysGo_26 : decode cX5_daysGo 26 = .ok (.iload_n 3, 1) := by decide +kernel
theorem dX5_daysGo_27 : decode cX5_daysGo 27 = .ok (.iload_n 2, 1) := by decide +kernel
theorem dX5_daysGo_28 : decode cX5_daysGo 28 = .ok (.if_icmp .gt 73, 3) := by decide +kernel
theorem dX5_daysGo_31 : decode cX5_daysGo 31 = .ok (.aload_n 0, 1) := by decide +kernel
theorem dX5_daysGo_32 : decode cX5_daysGo 32 = .ok (.getfield 173, 3) := by decide +kernel
theorem dX5_daysGo_35 : decode cX5_daysGo 35 = .ok (.istore 4, 2) := by decide +kernel
theorem dX5_daysGo_37 : decode cX5_daysGo 37 = .ok (.aload_n 0, 1) := by decide +kernel
theorem dX5_daysGo_38 : decode cX5_daysGo 38 = .ok (.sipush 220, 3) := by decide +kernel
theorem dX5_daysGo_41 : decode cX5_daysGo 41 = .ok (.invokevirtual 213, 3) := by decide +kernel
theorem dX5_daysGo_44 : decode cX5_daysGo 44 = .ok (.aload_n 0, 1) := by decide +kernel
theorem dX5_daysGo_45 : decode cX5_daysGo 45 = .ok (.dup, 1) := by decide +kernel
theorem dX5_daysGo_46 : decode cX5_daysGo 46 = .ok (.getfield 220, 3) := by decide +kernel
theorem dX5_daysGo_49 : decode cX5_daysGo 49 = .ok (.aload_n 0, 1) := by decide +kernel
theorem dX5_daysGo_50 : decode cX5_daysGo 50 = .ok (.getfield 173, 3) := by decide +kernel
theorem dX5_daysGo_53 : decode cX5_daysGo 53 = .ok (.iload 4, 2) := by decide +kernel
theorem dX5_daysGo_55 : decode cX5_daysGo 55 = .ok (.if_icmp .le 7, 3) := by decide +kernel
theorem dX5_daysGo_58 : decode cX5_daysGo 58 = .ok (.iconst 1, 1) := by decide +kernel
theorem dX5_daysGo_59 : decode cX5_daysGo 59 = .ok (.goto 4, 3) := by decide +kernel
theorem dX5_daysGo_62 : decode cX5_daysGo 62 = .ok (.iconst 0, 1) := by decide +kernel
theorem dX5_daysGo_63 : decode cX5_daysGo 63 = .ok (.iadd, 1) := by decide +kernel
theorem dX5_daysGo_64 : decode cX5_daysGo 64 = .ok (.putfield 220, 3) := by decide +kernel
theorem dX5_daysGo_67 : decode cX5_daysGo 67 = .ok (.aload_n 0, 1) := by decide +kernel
theorem dX5_daysGo_68 : decode cX5_daysGo 68 = .ok (.aload_n 0, 1) := by decide +kernel
theorem dX5_daysGo_69 : decode cX5_daysGo 69 = .ok (.getfield 223, 3) := by decide +kernel
theorem dX5_daysGo_72 : decode cX5_daysGo 72 = .ok (.bipush (-4), 2) := by decide +kernel
theorem dX5_daysGo_74 : decode cX5_daysGo 74 = .ok (.if_icmp .ne 14, 3) := by decide +kernel
theorem dX5_daysGo_77 : decode cX5_daysGo 77 = .ok (.aload_n 0, 1) := by decide +kernel
theorem dX5_daysGo_78 : decode cX5_daysGo 78 = .ok (.getfield 173, 3) := by decide +kernel
theorem dX5_daysGo_81 : decode cX5_daysGo 81 = .ok (.ifCond .le 7, 3) := by decide +kernel
theorem dX5_daysGo_84 : decode cX5_daysGo 84 = .ok (.iload_n 3, 1) := by decide +kernel
theorem dX5_daysGo_85 : decode cX5_daysGo 85 = .ok (.goto 7, 3) := by decide +kernel
theorem dX5_daysGo_88 : decode cX5_daysGo 88 = .ok (.aload_n 0, 1) := by decide +kernel
theorem dX5_daysGo_89 : decode cX5_daysGo 89 = .ok (.getfield 223, 3) := by decide +kernel
theorem dX5_daysGo_92 : decode cX5_daysGo 92 = .ok (.putfield 223, 3) := by decide +kernel
theorem dX5_daysGo_95 : decode cX5_daysGo 95 = .ok (.iinc 3 1, 3) := by decide +kernel
theorem dX5_daysGo_98 : decode cX5_daysGo 98 = .ok (.goto (-72), 3) := by decide +kernel
theorem dX5_daysGo_101 : decode cX5_daysGo 101 = .ok (.aload_n 0, 1) := by decide +kernel
theorem dX5_daysGo_102 : decode cX5_daysGo 102 = .ok (.getfield 173, 3) := by decide +kernel
theorem dX5_daysGo_105 : decode cX5_daysGo 105 = .ok (.ireturn, 1) := by decide +kernel
theorem dX5_runs_0 : decode cX5_runs 0 = .ok (.iload_n 1, 1) := by decide +kernel
theorem dX5_runs_1 : decode cX5_runs 1 = .ok (.i2l, 1) := by decide +kernel
theorem dX5_runs_2 : decode cX5_runs 2 = .ok (.lconst 0, 1) := by decide +kernel
theorem dX5_runs_3 : decode cX5_runs 3 = .ok (.ldc2_w 226, 3) := by decide +kernel
theorem dX5_runs_6 : decode cX5_runs 6 = .ok (.invokestatic 46, 3) := by decide +kernel
theorem dX5_runs_9 : decode cX5_runs 9 = .ok (.ifCond .eq 15, 3) := by decide +kernel
theorem dX5_runs_12 : decode cX5_runs 12 = .ok (.iload_n 2, 1) := by decide +kernel
theorem dX5_runs_13 : decode cX5_runs 13 = .ok (.i2l, 1) := by decide +kernel
theorem dX5_runs_14 : decode cX5_runs 14 = .ok (.lconst 0, 1) := by decide +kernel
theorem dX5_runs_15 : decode cX5_runs 15 = .ok (.ldc2_w 91, 3) := by decide +kernel
theorem dX5_runs_18 : decode cX5_runs 18 = .ok (.invokestatic 46, 3) := by decide +kernel
theorem dX5_runs_21 : decode cX5_runs 21 = .ok (.ifCond .ne 5, 3) := by decide +kernel
theorem dX5_runs_24 : decode cX5_runs 24 = .ok (.iconst (-1), 1) := by decide +kernel
theorem dX5_runs_25 : decode cX5_runs 25 = .ok (.ireturn, 1) := by decide +kernel
theorem dX5_runs_26 : decode cX5_runs 26 = .ok (.aload_n 0, 1) := by decide +kernel
theorem dX5_runs_27 : decode cX5_runs 27 = .ok (.iconst 0, 1) := by decide +kernel
theorem dX5_runs_28 : decode cX5_runs 28 = .ok (.iload_n 1, 1) := by decide +kernel
theorem dX5_runs_29 : decode cX5_runs 29 = .ok (.invokevirtual 228, 3) := by decide +kernel
theorem dX5_runs_32 : decode cX5_runs 32 = .ok (.istore_n 3, 1) := by decide +kernel
theorem dX5_runs_33 : decode cX5_runs 33 = .ok (.iload_n 2, 1) := by decide +kernel
theorem dX5_runs_34 : decode cX5_runs 34 = .ok (.ifCond .ne 7, 3) := by decide +kernel
theorem dX5_runs_37 : decode cX5_runs 37 = .ok (.iload_n 3, 1) := by decide +kernel
theorem dX5_runs_38 : decode cX5_runs 38 = .ok (.goto 34, 3) := by decide +kernel
theorem dX5_runs_41 : decode cX5_runs 41 = .ok (.iload_n 2, 1) := by decide +kernel
theorem dX5_runs_42 : decode cX5_runs 42 = .ok (.iconst 1, 1) := by decide +kernel
theorem dX5_runs_43 : decode cX5_runs 43 = .ok (.if_icmp .ne 13, 3) := by decide +kernel
end
section
theorem dX5_runs_46 : decode cX5_runs 46 = .ok (.aload_n 0, 1) := by decide +kernel
theorem dX5_runs_47 : decode cX5_runs 47 = .ok (.sipush 220, 3) := by decide +kernel
theorem dX5_runs_50 : decode cX5_runs 50 = .ok (.invokevirtual 179, 3) := by decide +kernel
theorem dX5_runs_53 : decode cX5_runs 53 = .ok (.goto 19, 3) := by decide +kernel
theorem dX5_runs_56 : decode cX5_runs 56 = .ok (.iload_n 2, 1) := by decide +kernel
theorem dX5_runs_57 : decode cX5_runs 57 = .ok (.iconst 2, 1) := by decide +kernel
theorem dX5_runs_58 : decode cX5_runs 58 = .ok (.if_icmp .ne 10, 3) := by decide +kernel
theorem dX5_runs_61 : decode cX5_runs 61 = .ok (.aload_n 0, 1) := by decide +kernel
theorem dX5_runs_62 : decode cX5_runs 62 = .ok (.getfield 220, 3) := by decide +kernel
theorem dX5_runs_65 : decode cX5_runs 65 = .ok (.goto 7, 3) := by decide +kernel
theorem dX5_runs_68 : decode cX5_runs 68 = .ok (.aload_n 0, 1) := by decide +kernel
theorem dX5_runs_69 : decode cX5_runs 69 = .ok (.getfield 223, 3) := by decide +kernel
theorem dX5_runs_72 : decode cX5_runs 72 = .ok (.ireturn, 1) := by decide +kernel
theorem dX5_ahead_0 : decode cX5_ahead 0 = .ok (.aload_n 0, 1) := by decide +kernel
theorem dX5_ahead_1 : decode cX5_ahead 1 = .ok (.iload_n 1, 1) := by decide +kernel
theorem dX5_ahead_2 : decode cX5_ahead 2 = .ok (.invokevirtual 182, 3) := by decide +kernel
theorem dX5_ahead_5 : decode cX5_ahead 5 = .ok (.ifCond .eq 25, 3) := by decide +kernel
theorem dX5_ahead_8 : decode cX5_ahead 8 = .ok (.iload_n 2, 1) := by decide +kernel
theorem dX5_ahead_9 : decode cX5_ahead 9 = .ok (.i2l, 1) := by decide +kernel
theorem dX5_ahead_10 : decode cX5_ahead 10 = .ok (.lconst 0, 1) := by decide +kernel
theorem dX5_ahead_11 : decode cX5_ahead 11 = .ok (.ldc2_w 226, 3) := by decide +kernel
theorem dX5_ahead_14 : decode cX5_ahead 14 = .ok (.invokestatic 46, 3) := by decide +kernel
theorem dX5_ahead_17 : decode cX5_ahead 17 = .ok (.ifCond .eq 13, 3) := by decide +kernel
theorem dX5_ahead_20 : decode cX5_ahead 20 = .ok (.iload_n 3, 1) := by decide +kernel
theorem dX5_ahead_21 : decode cX5_ahead 21 = .ok (.i2l, 1) := by decide +kernel
theorem dX5_ahead_22 : decode cX5_ahead 22 = .ok (.lconst 0, 1) := by decide +kernel
theorem dX5_ahead_23 : decode cX5_ahead 23 = .ok (.lconst 1, 1) := by decide +kernel
theorem dX5_ahead_24 : decode cX5_ahead 24 = .ok (.invokestatic 46, 3) := by decide +kernel
theorem dX5_ahead_27 : decode cX5_ahead 27 = .ok (.ifCond .ne 5, 3) := by decide +kernel
theorem dX5_ahead_30 : decode cX5_ahead 30 = .ok (.iconst (-1), 1) := by decide +kernel
theorem dX5_ahead_31 : decode cX5_ahead 31 = .ok (.ireturn, 1) := by decide +kernel
theorem dX5_ahead_32 : decode cX5_ahead 32 = .ok (.aload_n 0, 1) := by decide +kernel
theorem dX5_ahead_33 : decode cX5_ahead 33 = .ok (.iconst 0, 1) := by decide +kernel
theorem dX5_ahead_34 : decode cX5_ahead 34 = .ok (.iload_n 2, 1) := by decide +kernel
theorem dX5_ahead_35 : decode cX5_ahead 35 = .ok (.invokevirtual 228, 3) := by decide +kernel
theorem dX5_ahead_38 : decode cX5_ahead 38 = .ok (.pop, 1) := by decide +kernel
theorem dX5_ahead_39 : decode cX5_ahead 39 = .ok (.iload_n 3, 1) := by decide +kernel
theorem dX5_ahead_40 : decode cX5_ahead 40 = .ok (.ifCond .ne 16, 3) := by decide +kernel
theorem dX5_ahead_43 : decode cX5_ahead 43 = .ok (.aload_n 0, 1) := by decide +kernel
theorem dX5_ahead_44 : decode cX5_ahead 44 = .ok (.getfield 7, 3) := by decide +kernel
theorem dX5_ahead_47 : decode cX5_ahead 47 = .ok (.sipush 225, 3) := by decide +kernel
theorem dX5_ahead_50 : decode cX5_ahead 50 = .ok (.iload_n 1, 1) := by decide +kernel
theorem dX5_ahead_51 : decode cX5_ahead 51 = .ok (.iadd, 1) := by decide +kernel
theorem dX5_ahead_52 : decode cX5_ahead 52 = .ok (.iaload, 1) := by decide +kernel
theorem dX5_ahead_53 : decode cX5_ahead 53 = .ok (.goto 11, 3) := by decide +kernel
theorem dX5_ahead_56 : decode cX5_ahead 56 = .ok (.aload_n 0, 1) := by decide +kernel
theorem dX5_ahead_57 : decode cX5_ahead 57 = .ok (.sipush 220, 3) := by decide +kernel
theorem dX5_ahead_60 : decode cX5_ahead 60 = .ok (.iload_n 1, 1) := by decide +kernel
theorem dX5_ahead_61 : decode cX5_ahead 61 = .ok (.invokevirtual 160, 3) := by decide +kernel
theorem dX5_ahead_64 : decode cX5_ahead 64 = .ok (.ireturn, 1) := by decide +kernel
theorem dX5_believed_0 : decode cX5_believed 0 = .ok (.aload_n 0, 1) := by decide +kernel
theorem dX5_believed_1 : decode cX5_believed 1 = .ok (.iload_n 1, 1) := by decide +kernel
theorem dX5_believed_2 : decode cX5_believed 2 = .ok (.invokevirtual 182, 3) := by decide +kernel
theorem dX5_believed_5 : decode cX5_believed 5 = .ok (.ifCond .eq 20, 3) := by decide +kernel
theorem dX5_believed_8 : decode cX5_believed 8 = .ok (.iload_n 2, 1) := by decide +kernel
theorem dX5_believed_9 : decode cX5_believed 9 = .ok (.invokestatic 197, 3) := by decide +kernel
theorem dX5_believed_12 : decode cX5_believed 12 = .ok (.ifCond .eq 13, 3) := by decide +kernel
theorem dX5_believed_15 : decode cX5_believed 15 = .ok (.aload_n 0, 1) := by decide +kernel
theorem dX5_believed_16 : decode cX5_believed 16 = .ok (.iconst 0, 1) := by decide +kernel
theorem dX5_believed_17 : decode cX5_believed 17 = .ok (.iload_n 1, 1) := by decide +kernel
theorem dX5_believed_18 : decode cX5_believed 18 = .ok (.iload_n 2, 1) := by decide +kernel
theorem dX5_believed_19 : decode cX5_believed 19 = .ok (.invokevirtual 156, 3) := by decide +kernel
theorem dX5_believed_22 : decode cX5_believed 22 = .ok (.goto 4, 3) := by decide +kernel
theorem dX5_believed_25 : decode cX5_believed 25 = .ok (.iconst (-1), 1) := by decide +kernel
theorem dX5_believed_26 : decode cX5_believed 26 = .ok (.ireturn, 1) := by decide +kernel
theorem dX5_agrees_0 : decode cX5_agrees 0 = .ok (.aload_n 0, 1) := by decide +kernel
theorem dX5_agrees_1 : decode cX5_agrees 1 = .ok (.iload_n 1, 1) := by decide +kernel
theorem dX5_agrees_2 : decode cX5_agrees 2 = .ok (.invokevirtual 182, 3) := by decide +kernel
theorem dX5_agrees_5 : decode cX5_agrees 5 = .ok (.ifCond .ne 5, 3) := by decide +kernel
theorem dX5_agrees_8 : decode cX5_agrees 8 = .ok (.iconst (-1), 1) := by decide +kernel
theorem dX5_agrees_9 : decode cX5_agrees 9 = .ok (.ireturn, 1) := by decide +kernel
theorem dX5_agrees_10 : decode cX5_agrees 10 = .ok (.aload_n 0, 1) := by decide +kernel
theorem dX5_agrees_11 : decode cX5_agrees 11 = .ok (.iconst 0, 1) := by decide +kernel
theorem dX5_agrees_12 : decode cX5_agrees 12 = .ok (.sipush 220, 3) := by decide +kernel
theorem dX5_agrees_15 : decode cX5_agrees 15 = .ok (.invokevirtual 216, 3) := by decide +kernel
theorem dX5_agrees_18 : decode cX5_agrees 18 = .ok (.iconst 0, 1) := by decide +kernel
theorem dX5_agrees_19 : decode cX5_agrees 19 = .ok (.istore_n 2, 1) := by decide +kernel
theorem dX5_agrees_20 : decode cX5_agrees 20 = .ok (.iload_n 2, 1) := by decide +kernel
theorem dX5_agrees_21 : decode cX5_agrees 21 = .ok (.bipush 60, 2) := by decide +kernel
theorem dX5_agrees_23 : decode cX5_agrees 23 = .ok (.if_icmp .gt 29, 3) := by decide +kernel
theorem dX5_agrees_26 : decode cX5_agrees 26 = .ok (.aload_n 0, 1) := by decide +kernel
theorem dX5_agrees_27 : decode cX5_agrees 27 = .ok (.sipush 220, 3) := by decide +kernel
theorem dX5_agrees_30 : decode cX5_agrees 30 = .ok (.iload_n 1, 1) := by decide +kernel
theorem dX5_agrees_31 : decode cX5_agrees 31 = .ok (.invokevirtual 166, 3) := by decide +kernel
theorem dX5_agrees_34 : decode cX5_agrees 34 = .ok (.ifCond .eq 5, 3) := by decide +kernel
theorem dX5_agrees_37 : decode cX5_agrees 37 = .ok (.iload_n 2, 1) := by decide +kernel
theorem dX5_agrees_38 : decode cX5_agrees 38 = .ok (.ireturn, 1) := by decide +kernel
theorem dX5_agrees_39 : decode cX5_agrees 39 = .ok (.aload_n 0, 1) := by decide +kernel
theorem dX5_agrees_40 : decode cX5_agrees 40 = .ok (.sipush 220, 3) := by decide +kernel
theorem dX5_agrees_43 : decode cX5_agrees 43 = .ok (.invokevirtual 213, 3) := by decide +kernel
theorem dX5_agrees_46 : decode cX5_agrees 46 = .ok (.iinc 2 1, 3) := by decide +kernel
theorem dX5_agrees_49 : decode cX5_agrees 49 = .ok (.goto (-29), 3) := by decide +kernel
theorem dX5_agrees_52 : decode cX5_agrees 52 = .ok (.bipush (-4), 2) := by decide +kernel
theorem dX5_agrees_54 : decode cX5_agrees 54 = .ok (.ireturn, 1) := by decide +kernel
theorem dX5_pose_0 : decode cX5_pose 0 = .ok (.aload_n 0, 1) := by decide +kernel
theorem dX5_pose_1 : decode cX5_pose 1 = .ok (.iload_n 1, 1) := by decide +kernel
theorem dX5_pose_2 : decode cX5_pose 2 = .ok (.invokevirtual 182, 3) := by decide +kernel
theorem dX5_pose_5 : decode cX5_pose 5 = .ok (.ifCond .eq 10, 3) := by decide +kernel
theorem dX5_pose_8 : decode cX5_pose 8 = .ok (.iload_n 2, 1) := by decide +kernel
theorem dX5_pose_9 : decode cX5_pose 9 = .ok (.invokestatic 194, 3) := by decide +kernel
theorem dX5_pose_12 : decode cX5_pose 12 = .ok (.ifCond .ne 5, 3) := by decide +kernel
theorem dX5_pose_15 : decode cX5_pose 15 = .ok (.iconst (-1), 1) := by decide +kernel
theorem dX5_pose_16 : decode cX5_pose 16 = .ok (.ireturn, 1) := by decide +kernel
theorem dX5_pose_17 : decode cX5_pose 17 = .ok (.iconst 0, 1) := by decide +kernel
theorem dX5_pose_18 : decode cX5_pose 18 = .ok (.istore_n 3, 1) := by decide +kernel
theorem dX5_pose_19 : decode cX5_pose 19 = .ok (.iload_n 3, 1) := by decide +kernel
theorem dX5_pose_20 : decode cX5_pose 20 = .ok (.bipush 16, 2) := by decide +kernel
theorem dX5_pose_22 : decode cX5_pose 22 = .ok (.if_icmp .ge 35, 3) := by decide +kernel
theorem dX5_pose_25 : decode cX5_pose 25 = .ok (.aload_n 0, 1) := by decide +kernel
theorem dX5_pose_26 : decode cX5_pose 26 = .ok (.getfield 7, 3) := by decide +kernel
theorem dX5_pose_29 : decode cX5_pose 29 = .ok (.iload_n 1, 1) := by decide +kernel
theorem dX5_pose_30 : decode cX5_pose 30 = .ok (.iaload, 1) := by decide +kernel
theorem dX5_pose_31 : decode cX5_pose 31 = .ok (.iload_n 3, 1) := by decide +kernel
theorem dX5_pose_32 : decode cX5_pose 32 = .ok (.invokestatic 142, 3) := by decide +kernel
theorem dX5_pose_35 : decode cX5_pose 35 = .ok (.iload_n 2, 1) := by decide +kernel
theorem dX5_pose_36 : decode cX5_pose 36 = .ok (.if_icmp .ne 15, 3) := by decide +kernel
theorem dX5_pose_39 : decode cX5_pose 39 = .ok (.aload_n 0, 1) := by decide +kernel
theorem dX5_pose_40 : decode cX5_pose 40 = .ok (.iconst 0, 1) := by decide +kernel
theorem dX5_pose_41 : decode cX5_pose 41 = .ok (.iload_n 1, 1) := by decide +kernel
theorem dX5_pose_42 : decode cX5_pose 42 = .ok (.iload_n 3, 1) := by decide +kernel
theorem dX5_pose_43 : decode cX5_pose 43 = .ok (.invokevirtual 145, 3) := by decide +kernel
theorem dX5_pose_46 : decode cX5_pose 46 = .ok (.ifCond .eq 5, 3) := by decide +kernel
theorem dX5_pose_49 : decode cX5_pose 49 = .ok (.iload_n 3, 1) := by decide +kernel
theorem dX5_pose_50 : decode cX5_pose 50 = .ok (.ireturn, 1) := by decide +kernel
theorem dX5_pose_51 : decode cX5_pose 51 = .ok (.iinc 3 1, 3) := by decide +kernel
theorem dX5_pose_54 : decode cX5_pose 54 = .ok (.goto (-35), 3) := by decide +kernel
theorem dX5_pose_57 : decode cX5_pose 57 = .ok (.bipush (-4), 2) := by decide +kernel
theorem dX5_pose_59 : decode cX5_pose 59 = .ok (.ireturn, 1) := by decide +kernel
theorem dX5_heavy_0 : decode cX5_heavy 0 = .ok (.aload_n 0, 1) := by decide +kernel
theorem dX5_heavy_1 : decode cX5_heavy 1 = .ok (.iload_n 1, 1) := by decide +kernel
theorem dX5_heavy_2 : decode cX5_heavy 2 = .ok (.invokevirtual 182, 3) := by decide +kernel
theorem dX5_heavy_5 : decode cX5_heavy 5 = .ok (.ifCond .eq 10, 3) := by decide +kernel
theorem dX5_heavy_8 : decode cX5_heavy 8 = .ok (.iload_n 2, 1) := by decide +kernel
theorem dX5_heavy_9 : decode cX5_heavy 9 = .ok (.invokestatic 194, 3) := by decide +kernel
theorem dX5_heavy_12 : decode cX5_heavy 12 = .ok (.ifCond .ne 5, 3) := by decide +kernel
theorem dX5_heavy_15 : decode cX5_heavy 15 = .ok (.iconst (-1), 1) := by decide +kernel
theorem dX5_heavy_16 : decode cX5_heavy 16 = .ok (.ireturn, 1) := by decide +kernel
theorem dX5_heavy_17 : decode cX5_heavy 17 = .ok (.iconst 0, 1) := by decide +kernel
theorem dX5_heavy_18 : decode cX5_heavy 18 = .ok (.istore_n 3, 1) := by decide +kernel
theorem dX5_heavy_19 : decode cX5_heavy 19 = .ok (.iconst 0, 1) := by decide +kernel
theorem dX5_heavy_20 : decode cX5_heavy 20 = .ok (.istore 4, 2) := by decide +kernel
theorem dX5_heavy_22 : decode cX5_heavy 22 = .ok (.iload 4, 2) := by decide +kernel
theorem dX5_heavy_24 : decode cX5_heavy 24 = .ok (.bipush 16, 2) := by decide +kernel
theorem dX5_heavy_26 : decode cX5_heavy 26 = .ok (.if_icmp .ge 57, 3) := by decide +kernel
theorem dX5_heavy_29 : decode cX5_heavy 29 = .ok (.aload_n 0, 1) := by decide +kernel
theorem dX5_heavy_30 : decode cX5_heavy 30 = .ok (.getfield 7, 3) := by decide +kernel
theorem dX5_heavy_33 : decode cX5_heavy 33 = .ok (.bipush 15, 2) := by decide +kernel
theorem dX5_heavy_35 : decode cX5_heavy 35 = .ok (.iaload, 1) := by decide +kernel
theorem dX5_heavy_36 : decode cX5_heavy 36 = .ok (.bipush 25, 2) := by decide +kernel
theorem dX5_heavy_38 : decode cX5_heavy 38 = .ok (.iadd, 1) := by decide +kernel
theorem dX5_heavy_39 : decode cX5_heavy 39 = .ok (.iconst 4, 1) := by decide +kernel
theorem dX5_heavy_40 : decode cX5_heavy 40 = .ok (.iload 4, 2) := by decide +kernel
theorem dX5_heavy_42 : decode cX5_heavy 42 = .ok (.invokestatic 139, 3) := by decide +kernel
theorem dX5_heavy_45 : decode cX5_heavy 45 = .ok (.isub, 1) := by decide +kernel
theorem dX5_heavy_46 : decode cX5_heavy 46 = .ok (.imul, 1) := by decide +kernel
theorem dX5_heavy_47 : decode cX5_heavy 47 = .ok (.istore 5, 2) := by decide +kernel
theorem dX5_heavy_49 : decode cX5_heavy 49 = .ok (.aload_n 0, 1) := by decide +kernel
theorem dX5_heavy_50 : decode cX5_heavy 50 = .ok (.getfield 7, 3) := by decide +kernel
theorem dX5_heavy_53 : decode cX5_heavy 53 = .ok (.iload_n 1, 1) := by decide +kernel
theorem dX5_heavy_54 : decode cX5_heavy 54 = .ok (.iaload, 1) := by decide +kernel
theorem dX5_heavy_55 : decode cX5_heavy 55 = .ok (.iload 4, 2) := by decide +kernel
theorem dX5_heavy_57 : decode cX5_heavy 57 = .ok (.invokestatic 142, 3) := by decide +kernel
theorem dX5_heavy_60 : decode cX5_heavy 60 = .ok (.iload_n 2, 1) := by decide +kernel
theorem dX5_heavy_61 : decode cX5_heavy 61 = .ok (.if_icmp .ne 14, 3) := by decide +kernel
theorem dX5_heavy_64 : decode cX5_heavy 64 = .ok (.iload 5, 2) := by decide +kernel
theorem dX5_heavy_66 : decode cX5_heavy 66 = .ok (.iload_n 3, 1) := by decide +kernel
theorem dX5_heavy_67 : decode cX5_heavy 67 = .ok (.if_icmp .le 8, 3) := by decide +kernel
theorem dX5_heavy_70 : decode cX5_heavy 70 = .ok (.iload 5, 2) := by decide +kernel
theorem dX5_heavy_72 : decode cX5_heavy 72 = .ok (.goto 4, 3) := by decide +kernel
theorem dX5_heavy_75 : decode cX5_heavy 75 = .ok (.iload_n 3, 1) := by decide +kernel
theorem dX5_heavy_76 : decode cX5_heavy 76 = .ok (.istore_n 3, 1) := by decide +kernel
theorem dX5_heavy_77 : decode cX5_heavy 77 = .ok (.iinc 4 1, 3) := by decide +kernel
theorem dX5_heavy_80 : decode cX5_heavy 80 = .ok (.goto (-58), 3) := by decide +kernel
theorem dX5_heavy_83 : decode cX5_heavy 83 = .ok (.iload_n 3, 1) := by decide +kernel
theorem dX5_heavy_84 : decode cX5_heavy 84 = .ok (.ifCond .ne 8, 3) := by decide +kernel
theorem dX5_heavy_87 : decode cX5_heavy 87 = .ok (.bipush (-4), 2) := by decide +kernel
theorem dX5_heavy_89 : decode cX5_heavy 89 = .ok (.goto 15, 3) := by decide +kernel
theorem dX5_heavy_92 : decode cX5_heavy 92 = .ok (.iload_n 3, 1) := by decide +kernel
theorem dX5_heavy_93 : decode cX5_heavy 93 = .ok (.bipush 99, 2) := by decide +kernel
theorem dX5_heavy_95 : decode cX5_heavy 95 = .ok (.if_icmp .le 8, 3) := by decide +kernel
theorem dX5_heavy_98 : decode cX5_heavy 98 = .ok (.bipush 99, 2) := by decide +kernel
theorem dX5_heavy_100 : decode cX5_heavy 100 = .ok (.goto 4, 3) := by decide +kernel
theorem dX5_heavy_103 : decode cX5_heavy 103 = .ok (.iload_n 3, 1) := by decide +kernel
theorem dX5_heavy_104 : decode cX5_heavy 104 = .ok (.ireturn, 1) := by decide +kernel
theorem dX5_need_0 : decode cX5_need 0 = .ok (.aload_n 0, 1) := by decide +kernel
theorem dX5_need_1 : decode cX5_need 1 = .ok (.iconst 0, 1) := by decide +kernel
theorem dX5_need_2 : decode cX5_need 2 = .ok (.sipush 275, 3) := by decide +kernel
theorem dX5_need_5 : decode cX5_need 5 = .ok (.invokevirtual 216, 3) := by decide +kernel
theorem dX5_need_8 : decode cX5_need 8 = .ok (.iconst 1, 1) := by decide +kernel
theorem dX5_need_9 : decode cX5_need 9 = .ok (.istore_n 1, 1) := by decide +kernel
theorem dX5_need_10 : decode cX5_need 10 = .ok (.iload_n 1, 1) := by decide +kernel
theorem dX5_need_11 : decode cX5_need 11 = .ok (.bipush 99, 2) := by decide +kernel
theorem dX5_need_13 : decode cX5_need 13 = .ok (.if_icmp .gt 66, 3) := by decide +kernel
theorem dX5_need_16 : decode cX5_need 16 = .ok (.aload_n 0, 1) := by decide +kernel
theorem dX5_need_17 : decode cX5_need 17 = .ok (.getfield 7, 3) := by decide +kernel
theorem dX5_need_20 : decode cX5_need 20 = .ok (.sipush 290, 3) := by decide +kernel
theorem dX5_need_23 : decode cX5_need 23 = .ok (.iload_n 1, 1) := by decide +kernel
theorem dX5_need_24 : decode cX5_need 24 = .ok (.bipush 25, 2) := by decide +kernel
theorem dX5_need_26 : decode cX5_need 26 = .ok (.isub, 1) := by decide +kernel
theorem dX5_need_27 : decode cX5_need 27 = .ok (.iastore, 1) := by decide +kernel
theorem dX5_need_28 : decode cX5_need 28 = .ok (.iconst 1, 1) := by decide +kernel
theorem dX5_need_29 : decode cX5_need 29 = .ok (.istore_n 2, 1) := by decide +kernel
theorem dX5_need_30 : decode cX5_need 30 = .ok (.iconst 0, 1) := by decide +kernel
theorem dX5_need_31 : decode cX5_need 31 = .ok (.istore_n 3, 1) := by decide +kernel
theorem dX5_need_32 : decode cX5_need 32 = .ok (.iload_n 3, 1) := by decide +kernel
theorem dX5_need_33 : decode cX5_need 33 = .ok (.aload_n 0, 1) := by decide +kernel
theorem dX5_need_34 : decode cX5_need 34 = .ok (.getfield 131, 3) := by decide +kernel
theorem dX5_need_37 : decode cX5_need 37 = .ok (.if_icmp .ge 30, 3) := by decide +kernel
theorem dX5_need_40 : decode cX5_need 40 = .ok (.iload_n 2, 1) := by decide +kernel
theorem dX5_need_41 : decode cX5_need 41 = .ok (.ifCond .eq 18, 3) := by decide +kernel
theorem dX5_need_44 : decode cX5_need 44 = .ok (.aload_n 0, 1) := by decide +kernel
theorem dX5_need_45 : decode cX5_need 45 = .ok (.sipush 275, 3) := by decide +kernel
theorem dX5_need_48 : decode cX5_need 48 = .ok (.iload_n 3, 1) := by decide +kernel
theorem dX5_need_49 : decode cX5_need 49 = .ok (.invokevirtual 176, 3) := by decide +kernel
theorem dX5_need_52 : decode cX5_need 52 = .ok (.ifCond .eq 7, 3) := by decide +kernel
theorem dX5_need_55 : decode cX5_need 55 = .ok (.iconst 1, 1) := by decide +kernel
theorem dX5_need_56 : decode cX5_need 56 = .ok (.goto 4, 3) := by decide +kernel
theorem dX5_need_59 : decode cX5_need 59 = .ok (.iconst 0, 1) := by decide +kernel
theorem dX5_need_60 : decode cX5_need 60 = .ok (.istore_n 2, 1) := by decide +kernel
theorem dX5_need_61 : decode cX5_need 61 = .ok (.iinc 3 1, 3) := by decide +kernel
theorem dX5_need_64 : decode cX5_need 64 = .ok (.goto (-32), 3) := by decide +kernel
theorem dX5_need_67 : decode cX5_need 67 = .ok (.iload_n 2, 1) := by decide +kernel
theorem dX5_need_68 : decode cX5_need 68 = .ok (.ifCond .eq 5, 3) := by decide +kernel
theorem dX5_need_71 : decode cX5_need 71 = .ok (.iload_n 1, 1) := by decide +kernel
theorem dX5_need_72 : decode cX5_need 72 = .ok (.ireturn, 1) := by decide +kernel
theorem dX5_need_73 : decode cX5_need 73 = .ok (.iinc 1 1, 3) := by decide +kernel
theorem dX5_need_76 : decode cX5_need 76 = .ok (.goto (-66), 3) := by decide +kernel
theorem dX5_need_79 : decode cX5_need 79 = .ok (.bipush (-4), 2) := by decide +kernel
theorem dX5_need_81 : decode cX5_need 81 = .ok (.ireturn, 1) := by decide +kernel
theorem dX5_liar_0 : decode cX5_liar 0 = .ok (.iload_n 1, 1) := by decide +kernel
theorem dX5_liar_1 : decode cX5_liar 1 = .ok (.i2l, 1) := by decide +kernel
theorem dX5_liar_2 : decode cX5_liar 2 = .ok (.lconst 0, 1) := by decide +kernel
theorem dX5_liar_3 : decode cX5_liar 3 = .ok (.ldc2_w 226, 3) := by decide +kernel
theorem dX5_liar_6 : decode cX5_liar 6 = .ok (.invokestatic 46, 3) := by decide +kernel
theorem dX5_liar_9 : decode cX5_liar 9 = .ok (.ifCond .eq 13, 3) := by decide +kernel
theorem dX5_liar_12 : decode cX5_liar 12 = .ok (.iload_n 2, 1) := by decide +kernel
theorem dX5_liar_13 : decode cX5_liar 13 = .ok (.i2l, 1) := by decide +kernel
theorem dX5_liar_14 : decode cX5_liar 14 = .ok (.lconst 0, 1) := by decide +kernel
theorem dX5_liar_15 : decode cX5_liar 15 = .ok (.lconst 1, 1) := by decide +kernel
theorem dX5_liar_16 : decode cX5_liar 16 = .ok (.invokestatic 46, 3) := by decide +kernel
theorem dX5_liar_19 : decode cX5_liar 19 = .ok (.ifCond .ne 5, 3) := by decide +kernel
theorem dX5_liar_22 : decode cX5_liar 22 = .ok (.iconst (-1), 1) := by decide +kernel
theorem dX5_liar_23 : decode cX5_liar 23 = .ok (.ireturn, 1) := by decide +kernel
theorem dX5_liar_24 : decode cX5_liar 24 = .ok (.aload_n 0, 1) := by decide +kernel
theorem dX5_liar_25 : decode cX5_liar 25 = .ok (.iconst 0, 1) := by decide +kernel
theorem dX5_liar_26 : decode cX5_liar 26 = .ok (.iload_n 1, 1) := by decide +kernel
theorem dX5_liar_27 : decode cX5_liar 27 = .ok (.invokevirtual 228, 3) := by decide +kernel
theorem dX5_liar_30 : decode cX5_liar 30 = .ok (.istore_n 3, 1) := by decide +kernel
theorem dX5_liar_31 : decode cX5_liar 31 = .ok (.bipush (-4), 2) := by decide +kernel
theorem dX5_liar_33 : decode cX5_liar 33 = .ok (.istore 4, 2) := by decide +kernel
theorem dX5_liar_35 : decode cX5_liar 35 = .ok (.iconst 0, 1) := by decide +kernel
theorem dX5_liar_36 : decode cX5_liar 36 = .ok (.istore 5, 2) := by decide +kernel
theorem dX5_liar_38 : decode cX5_liar 38 = .ok (.iload 5, 2) := by decide +kernel
theorem dX5_liar_40 : decode cX5_liar 40 = .ok (.iconst 4, 1) := by decide +kernel
theorem dX5_liar_41 : decode cX5_liar 41 = .ok (.if_icmp .ge 67, 3) := by decide +kernel
theorem dX5_liar_44 : decode cX5_liar 44 = .ok (.aload_n 0, 1) := by decide +kernel
theorem dX5_liar_45 : decode cX5_liar 45 = .ok (.iconst 0, 1) := by decide +kernel
theorem dX5_liar_46 : decode cX5_liar 46 = .ok (.sipush 275, 3) := by decide +kernel
theorem dX5_liar_49 : decode cX5_liar 49 = .ok (.invokevirtual 216, 3) := by decide +kernel
theorem dX5_liar_52 : decode cX5_liar 52 = .ok (.aload_n 0, 1) := by decide +kernel
theorem dX5_liar_53 : decode cX5_liar 53 = .ok (.getfield 7, 3) := by decide +kernel
theorem dX5_liar_56 : decode cX5_liar 56 = .ok (.sipush 291, 3) := by decide +kernel
theorem dX5_liar_59 : decode cX5_liar 59 = .ok (.iload 5, 2) := by decide +kernel
theorem dX5_liar_61 : decode cX5_liar 61 = .ok (.iadd, 1) := by decide +kernel
theorem dX5_liar_62 : decode cX5_liar 62 = .ok (.iconst (-1), 1) := by decide +kernel
theorem dX5_liar_63 : decode cX5_liar 63 = .ok (.iastore, 1) := by decide +kernel
theorem dX5_liar_64 : decode cX5_liar 64 = .ok (.aload_n 0, 1) := by decide +kernel
theorem dX5_liar_65 : decode cX5_liar 65 = .ok (.sipush 275, 3) := by decide +kernel
theorem dX5_liar_68 : decode cX5_liar 68 = .ok (.iload_n 1, 1) := by decide +kernel
theorem dX5_liar_69 : decode cX5_liar 69 = .ok (.invokevirtual 228, 3) := by decide +kernel
theorem dX5_liar_72 : decode cX5_liar 72 = .ok (.istore 6, 2) := by decide +kernel
theorem dX5_liar_74 : decode cX5_liar 74 = .ok (.iload 6, 2) := by decide +kernel
theorem dX5_liar_76 : decode cX5_liar 76 = .ok (.iload_n 3, 1) := by decide +kernel
theorem dX5_liar_77 : decode cX5_liar 77 = .ok (.if_icmp .ge 8, 3) := by decide +kernel
theorem dX5_liar_80 : decode cX5_liar 80 = .ok (.iload 5, 2) := by decide +kernel
theorem dX5_liar_82 : decode cX5_liar 82 = .ok (.goto 5, 3) := by decide +kernel
theorem dX5_liar_85 : decode cX5_liar 85 = .ok (.iload 4, 2) := by decide +kernel
theorem dX5_liar_87 : decode cX5_liar 87 = .ok (.istore 4, 2) := by decide +kernel
theorem dX5_liar_89 : decode cX5_liar 89 = .ok (.iload 6, 2) := by decide +kernel
theorem dX5_liar_91 : decode cX5_liar 91 = .ok (.iload_n 3, 1) := by decide +kernel
theorem dX5_liar_92 : decode cX5_liar 92 = .ok (.if_icmp .ge 8, 3) := by decide +kernel
theorem dX5_liar_95 : decode cX5_liar 95 = .ok (.iload 6, 2) := by decide +kernel
theorem dX5_liar_97 : decode cX5_liar 97 = .ok (.goto 4, 3) := by decide +kernel
theorem dX5_liar_100 : decode cX5_liar 100 = .ok (.iload_n 3, 1) := by decide +kernel
theorem dX5_liar_101 : decode cX5_liar 101 = .ok (.istore_n 3, 1) := by decide +kernel
theorem dX5_liar_102 : decode cX5_liar 102 = .ok (.iinc 5 1, 3) := by decide +kernel
theorem dX5_liar_105 : decode cX5_liar 105 = .ok (.goto (-67), 3) := by decide +kernel
theorem dX5_liar_108 : decode cX5_liar 108 = .ok (.iload 4, 2) := by decide +kernel
theorem dX5_liar_110 : decode cX5_liar 110 = .ok (.bipush (-4), 2) := by decide +kernel
theorem dX5_liar_112 : decode cX5_liar 112 = .ok (.if_icmp .eq 7, 3) := by decide +kernel
theorem dX5_liar_115 : decode cX5_liar 115 = .ok (.iload_n 2, 1) := by decide +kernel
theorem dX5_liar_116 : decode cX5_liar 116 = .ok (.ifCond .ne 8, 3) := by decide +kernel
theorem dX5_liar_119 : decode cX5_liar 119 = .ok (.iload 4, 2) := by decide +kernel
theorem dX5_liar_121 : decode cX5_liar 121 = .ok (.goto 4, 3) := by decide +kernel
theorem dX5_liar_124 : decode cX5_liar 124 = .ok (.iload_n 3, 1) := by decide +kernel
theorem dX5_liar_125 : decode cX5_liar 125 = .ok (.ireturn, 1) := by decide +kernel
theorem dX5_agreeBehind_0 : decode cX5_agreeBehind 0 = .ok (.aload_n 0, 1) := by decide +kernel
theorem dX5_agreeBehind_1 : decode cX5_agreeBehind 1 = .ok (.iload_n 1, 1) := by decide +kernel
theorem dX5_agreeBehind_2 : decode cX5_agreeBehind 2 = .ok (.iload_n 2, 1) := by decide +kernel
theorem dX5_agreeBehind_3 : decode cX5_agreeBehind 3 = .ok (.invokevirtual 228, 3) := by decide +kernel
theorem dX5_agreeBehind_6 : decode cX5_agreeBehind 6 = .ok (.pop, 1) := by decide +kernel
theorem dX5_agreeBehind_7 : decode cX5_agreeBehind 7 = .ok (.aload_n 0, 1) := by decide +kernel
theorem dX5_agreeBehind_8 : decode cX5_agreeBehind 8 = .ok (.sipush 220, 3) := by decide +kernel
theorem dX5_agreeBehind_11 : decode cX5_agreeBehind 11 = .ok (.invokevirtual 179, 3) := by decide +kernel
theorem dX5_agreeBehind_14 : decode cX5_agreeBehind 14 = .ok (.invokestatic 231, 3) := by decide +kernel
theorem dX5_agreeBehind_17 : decode cX5_agreeBehind 17 = .ok (.ireturn, 1) := by decide +kernel
theorem dX5_lose_0 : decode cX5_lose 0 = .ok (.iload_n 1, 1) := by decide +kernel
theorem dX5_lose_1 : decode cX5_lose 1 = .ok (.i2l, 1) := by decide +kernel
theorem dX5_lose_2 : decode cX5_lose 2 = .ok (.lconst 0, 1) := by decide +kernel
theorem dX5_lose_3 : decode cX5_lose 3 = .ok (.ldc2_w 226, 3) := by decide +kernel
theorem dX5_lose_6 : decode cX5_lose 6 = .ok (.invokestatic 46, 3) := by decide +kernel
theorem dX5_lose_9 : decode cX5_lose 9 = .ok (.ifCond .eq 13, 3) := by decide +kernel
theorem dX5_lose_12 : decode cX5_lose 12 = .ok (.iload_n 2, 1) := by decide +kernel
theorem dX5_lose_13 : decode cX5_lose 13 = .ok (.i2l, 1) := by decide +kernel
theorem dX5_lose_14 : decode cX5_lose 14 = .ok (.lconst 0, 1) := by decide +kernel
theorem dX5_lose_15 : decode cX5_lose 15 = .ok (.lconst 1, 1) := by decide +kernel
theorem dX5_lose_16 : decode cX5_lose 16 = .ok (.invokestatic 46, 3) := by decide +kernel
theorem dX5_lose_19 : decode cX5_lose 19 = .ok (.ifCond .ne 5, 3) := by decide +kernel
theorem dX5_lose_22 : decode cX5_lose 22 = .ok (.iconst (-1), 1) := by decide +kernel
theorem dX5_lose_23 : decode cX5_lose 23 = .ok (.ireturn, 1) := by decide +kernel
theorem dX5_lose_24 : decode cX5_lose 24 = .ok (.aload_n 0, 1) := by decide +kernel
theorem dX5_lose_25 : decode cX5_lose 25 = .ok (.iconst 0, 1) := by decide +kernel
theorem dX5_lose_26 : decode cX5_lose 26 = .ok (.iload_n 1, 1) := by decide +kernel
theorem dX5_lose_27 : decode cX5_lose 27 = .ok (.invokevirtual 234, 3) := by decide +kernel
theorem dX5_lose_30 : decode cX5_lose 30 = .ok (.istore_n 3, 1) := by decide +kernel
theorem dX5_lose_31 : decode cX5_lose 31 = .ok (.bipush (-4), 2) := by decide +kernel
theorem dX5_lose_33 : decode cX5_lose 33 = .ok (.istore 4, 2) := by decide +kernel
theorem dX5_lose_35 : decode cX5_lose 35 = .ok (.iconst 0, 1) := by decide +kernel
theorem dX5_lose_36 : decode cX5_lose 36 = .ok (.istore 5, 2) := by decide +kernel
theorem dX5_lose_38 : decode cX5_lose 38 = .ok (.iload 5, 2) := by decide +kernel
theorem dX5_lose_40 : decode cX5_lose 40 = .ok (.aload_n 0, 1) := by decide +kernel
theorem dX5_lose_41 : decode cX5_lose 41 = .ok (.getfield 7, 3) := by decide +kernel
theorem dX5_lose_44 : decode cX5_lose 44 = .ok (.bipush 52, 2) := by decide +kernel
theorem dX5_lose_46 : decode cX5_lose 46 = .ok (.iaload, 1) := by decide +kernel
theorem dX5_lose_47 : decode cX5_lose 47 = .ok (.if_icmp .ge 58, 3) := by decide +kernel
theorem dX5_lose_50 : decode cX5_lose 50 = .ok (.aload_n 0, 1) := by decide +kernel
theorem dX5_lose_51 : decode cX5_lose 51 = .ok (.iconst 1, 1) := by decide +kernel
theorem dX5_lose_52 : decode cX5_lose 52 = .ok (.iload 5, 2) := by decide +kernel
theorem dX5_lose_54 : decode cX5_lose 54 = .ok (.ishl, 1) := by decide +kernel
theorem dX5_lose_55 : decode cX5_lose 55 = .ok (.putfield 149, 3) := by decide +kernel
theorem dX5_lose_58 : decode cX5_lose 58 = .ok (.aload_n 0, 1) := by decide +kernel
theorem dX5_lose_59 : decode cX5_lose 59 = .ok (.iconst 0, 1) := by decide +kernel
theorem dX5_lose_60 : decode cX5_lose 60 = .ok (.iload_n 1, 1) := by decide +kernel
theorem dX5_lose_61 : decode cX5_lose 61 = .ok (.invokevirtual 234, 3) := by decide +kernel
theorem dX5_lose_64 : decode cX5_lose 64 = .ok (.istore 6, 2) := by decide +kernel
theorem dX5_lose_66 : decode cX5_lose 66 = .ok (.aload_n 0, 1) := by decide +kernel
theorem dX5_lose_67 : decode cX5_lose 67 = .ok (.iconst 0, 1) := by decide +kernel
theorem dX5_lose_68 : decode cX5_lose 68 = .ok (.putfield 149, 3) := by decide +kernel
theorem dX5_lose_71 : decode cX5_lose 71 = .ok (.iload 6, 2) := by decide +kernel
theorem dX5_lose_73 : decode cX5_lose 73 = .ok (.iload_n 3, 1) := by decide +kernel
theorem dX5_lose_74 : decode cX5_lose 74 = .ok (.if_icmp .le 8, 3) := by decide +kernel
theorem dX5_lose_77 : decode cX5_lose 77 = .ok (.iload 5, 2) := by decide +kernel
theorem dX5_lose_79 : decode cX5_lose 79 = .ok (.goto 5, 3) := by decide +kernel
theorem dX5_lose_82 : decode cX5_lose 82 = .ok (.iload 4, 2) := by decide +kernel
theorem dX5_lose_84 : decode cX5_lose 84 = .ok (.istore 4, 2) := by decide +kernel
theorem dX5_lose_86 : decode cX5_lose 86 = .ok (.iload 6, 2) := by decide +kernel
theorem dX5_lose_88 : decode cX5_lose 88 = .ok (.iload_n 3, 1) := by decide +kernel
theorem dX5_lose_89 : decode cX5_lose 89 = .ok (.if_icmp .le 8, 3) := by decide +kernel
theorem dX5_lose_92 : decode cX5_lose 92 = .ok (.iload 6, 2) := by decide +kernel
theorem dX5_lose_94 : decode cX5_lose 94 = .ok (.goto 4, 3) := by decide +kernel
theorem dX5_lose_97 : decode cX5_lose 97 = .ok (.iload_n 3, 1) := by decide +kernel
theorem dX5_lose_98 : decode cX5_lose 98 = .ok (.istore_n 3, 1) := by decide +kernel
theorem dX5_lose_99 : decode cX5_lose 99 = .ok (.iinc 5 1, 3) := by decide +kernel
theorem dX5_lose_102 : decode cX5_lose 102 = .ok (.goto (-64), 3) := by decide +kernel
theorem dX5_lose_105 : decode cX5_lose 105 = .ok (.iload 4, 2) := by decide +kernel
theorem dX5_lose_107 : decode cX5_lose 107 = .ok (.bipush (-4), 2) := by decide +kernel
theorem dX5_lose_109 : decode cX5_lose 109 = .ok (.if_icmp .eq 7, 3) := by decide +kernel
theorem dX5_lose_112 : decode cX5_lose 112 = .ok (.iload_n 2, 1) := by decide +kernel
theorem dX5_lose_113 : decode cX5_lose 113 = .ok (.ifCond .ne 8, 3) := by decide +kernel
theorem dX5_lose_116 : decode cX5_lose 116 = .ok (.iload 4, 2) := by decide +kernel
theorem dX5_lose_118 : decode cX5_lose 118 = .ok (.goto 4, 3) := by decide +kernel
theorem dX5_lose_121 : decode cX5_lose 121 = .ok (.iload_n 3, 1) := by decide +kernel
theorem dX5_lose_122 : decode cX5_lose 122 = .ok (.ireturn, 1) := by decide +kernel
theorem dX5_swap_0 : decode cX5_swap 0 = .ok (.iload_n 1, 1) := by decide +kernel
theorem dX5_swap_1 : decode cX5_swap 1 = .ok (.i2l, 1) := by decide +kernel
theorem dX5_swap_2 : decode cX5_swap 2 = .ok (.lconst 0, 1) := by decide +kernel
theorem dX5_swap_3 : decode cX5_swap 3 = .ok (.ldc2_w 226, 3) := by decide +kernel
theorem dX5_swap_6 : decode cX5_swap 6 = .ok (.invokestatic 46, 3) := by decide +kernel
theorem dX5_swap_9 : decode cX5_swap 9 = .ok (.ifCond .eq 13, 3) := by decide +kernel
theorem dX5_swap_12 : decode cX5_swap 12 = .ok (.iload_n 2, 1) := by decide +kernel
theorem dX5_swap_13 : decode cX5_swap 13 = .ok (.i2l, 1) := by decide +kernel
theorem dX5_swap_14 : decode cX5_swap 14 = .ok (.lconst 0, 1) := by decide +kernel
theorem dX5_swap_15 : decode cX5_swap 15 = .ok (.lconst 1, 1) := by decide +kernel
theorem dX5_swap_16 : decode cX5_swap 16 = .ok (.invokestatic 46, 3) := by decide +kernel
theorem dX5_swap_19 : decode cX5_swap 19 = .ok (.ifCond .ne 5, 3) := by decide +kernel
theorem dX5_swap_22 : decode cX5_swap 22 = .ok (.iconst (-1), 1) := by decide +kernel
theorem dX5_swap_23 : decode cX5_swap 23 = .ok (.ireturn, 1) := by decide +kernel
theorem dX5_swap_24 : decode cX5_swap 24 = .ok (.aload_n 0, 1) := by decide +kernel
theorem dX5_swap_25 : decode cX5_swap 25 = .ok (.iconst 0, 1) := by decide +kernel
theorem dX5_swap_26 : decode cX5_swap 26 = .ok (.iload_n 1, 1) := by decide +kernel
theorem dX5_swap_27 : decode cX5_swap 27 = .ok (.invokevirtual 234, 3) := by decide +kernel
theorem dX5_swap_30 : decode cX5_swap 30 = .ok (.istore_n 3, 1) := by decide +kernel
theorem dX5_swap_31 : decode cX5_swap 31 = .ok (.bipush (-4), 2) := by decide +kernel
theorem dX5_swap_33 : decode cX5_swap 33 = .ok (.istore 4, 2) := by decide +kernel
theorem dX5_swap_35 : decode cX5_swap 35 = .ok (.iconst 0, 1) := by decide +kernel
theorem dX5_swap_36 : decode cX5_swap 36 = .ok (.istore 5, 2) := by decide +kernel
theorem dX5_swap_38 : decode cX5_swap 38 = .ok (.iload 5, 2) := by decide +kernel
theorem dX5_swap_40 : decode cX5_swap 40 = .ok (.aload_n 0, 1) := by decide +kernel
theorem dX5_swap_41 : decode cX5_swap 41 = .ok (.getfield 7, 3) := by decide +kernel
theorem dX5_swap_44 : decode cX5_swap 44 = .ok (.bipush 52, 2) := by decide +kernel
theorem dX5_swap_46 : decode cX5_swap 46 = .ok (.iaload, 1) := by decide +kernel
theorem dX5_swap_47 : decode cX5_swap 47 = .ok (.if_icmp .ge 127, 3) := by decide +kernel
theorem dX5_swap_50 : decode cX5_swap 50 = .ok (.iload 5, 2) := by decide +kernel
theorem dX5_swap_52 : decode cX5_swap 52 = .ok (.iconst 1, 1) := by decide +kernel
theorem dX5_swap_53 : decode cX5_swap 53 = .ok (.iadd, 1) := by decide +kernel
theorem dX5_swap_54 : decode cX5_swap 54 = .ok (.istore 6, 2) := by decide +kernel
theorem dX5_swap_56 : decode cX5_swap 56 = .ok (.iload 6, 2) := by decide +kernel
theorem dX5_swap_58 : decode cX5_swap 58 = .ok (.aload_n 0, 1) := by decide +kernel
theorem dX5_swap_59 : decode cX5_swap 59 = .ok (.getfield 7, 3) := by decide +kernel
theorem dX5_swap_62 : decode cX5_swap 62 = .ok (.bipush 52, 2) := by decide +kernel
theorem dX5_swap_64 : decode cX5_swap 64 = .ok (.iaload, 1) := by decide +kernel
theorem dX5_swap_65 : decode cX5_swap 65 = .ok (.if_icmp .ge 103, 3) := by decide +kernel
theorem dX5_swap_68 : decode cX5_swap 68 = .ok (.aload_n 0, 1) := by decide +kernel
theorem dX5_swap_69 : decode cX5_swap 69 = .ok (.iconst 0, 1) := by decide +kernel
theorem dX5_swap_70 : decode cX5_swap 70 = .ok (.sipush 275, 3) := by decide +kernel
theorem dX5_swap_73 : decode cX5_swap 73 = .ok (.invokevirtual 216, 3) := by decide +kernel
theorem dX5_swap_76 : decode cX5_swap 76 = .ok (.aload_n 0, 1) := by decide +kernel
theorem dX5_swap_77 : decode cX5_swap 77 = .ok (.getfield 7, 3) := by decide +kernel
theorem dX5_swap_80 : decode cX5_swap 80 = .ok (.sipush 311, 3) := by decide +kernel
theorem dX5_swap_83 : decode cX5_swap 83 = .ok (.iload 5, 2) := by decide +kernel
theorem dX5_swap_85 : decode cX5_swap 85 = .ok (.iadd, 1) := by decide +kernel
theorem dX5_swap_86 : decode cX5_swap 86 = .ok (.aload_n 0, 1) := by decide +kernel
theorem dX5_swap_87 : decode cX5_swap 87 = .ok (.getfield 7, 3) := by decide +kernel
theorem dX5_swap_90 : decode cX5_swap 90 = .ok (.bipush 36, 2) := by decide +kernel
theorem dX5_swap_92 : decode cX5_swap 92 = .ok (.iload 6, 2) := by decide +kernel
theorem dX5_swap_94 : decode cX5_swap 94 = .ok (.iadd, 1) := by decide +kernel
theorem dX5_swap_95 : decode cX5_swap 95 = .ok (.iaload, 1) := by decide +kernel
theorem dX5_swap_96 : decode cX5_swap 96 = .ok (.iastore, 1) := by decide +kernel
theorem dX5_swap_97 : decode cX5_swap 97 = .ok (.aload_n 0, 1) := by decide +kernel
theorem dX5_swap_98 : decode cX5_swap 98 = .ok (.getfield 7, 3) := by decide +kernel
theorem dX5_swap_101 : decode cX5_swap 101 = .ok (.sipush 311, 3) := by decide +kernel
theorem dX5_swap_104 : decode cX5_swap 104 = .ok (.iload 6, 2) := by decide +kernel
theorem dX5_swap_106 : decode cX5_swap 106 = .ok (.iadd, 1) := by decide +kernel
theorem dX5_swap_107 : decode cX5_swap 107 = .ok (.aload_n 0, 1) := by decide +kernel
theorem dX5_swap_108 : decode cX5_swap 108 = .ok (.getfield 7, 3) := by decide +kernel
theorem dX5_swap_111 : decode cX5_swap 111 = .ok (.bipush 36, 2) := by decide +kernel
theorem dX5_swap_113 : decode cX5_swap 113 = .ok (.iload 5, 2) := by decide +kernel
theorem dX5_swap_115 : decode cX5_swap 115 = .ok (.iadd, 1) := by decide +kernel
theorem dX5_swap_116 : decode cX5_swap 116 = .ok (.iaload, 1) := by decide +kernel
theorem dX5_swap_117 : decode cX5_swap 117 = .ok (.iastore, 1) := by decide +kernel
theorem dX5_swap_118 : decode cX5_swap 118 = .ok (.aload_n 0, 1) := by decide +kernel
theorem dX5_swap_119 : decode cX5_swap 119 = .ok (.sipush 275, 3) := by decide +kernel
theorem dX5_swap_122 : decode cX5_swap 122 = .ok (.iload_n 1, 1) := by decide +kernel
theorem dX5_swap_123 : decode cX5_swap 123 = .ok (.invokevirtual 234, 3) := by decide +kernel
theorem dX5_swap_126 : decode cX5_swap 126 = .ok (.istore 7, 2) := by decide +kernel
theorem dX5_swap_128 : decode cX5_swap 128 = .ok (.iload 7, 2) := by decide +kernel
theorem dX5_swap_130 : decode cX5_swap 130 = .ok (.iload_n 3, 1) := by decide +kernel
theorem dX5_swap_131 : decode cX5_swap 131 = .ok (.if_icmp .le 14, 3) := by decide +kernel
theorem dX5_swap_134 : decode cX5_swap 134 = .ok (.bipush 10, 2) := by decide +kernel
theorem dX5_swap_136 : decode cX5_swap 136 = .ok (.iload 5, 2) := by decide +kernel
theorem dX5_swap_138 : decode cX5_swap 138 = .ok (.imul, 1) := by decide +kernel
theorem dX5_swap_139 : decode cX5_swap 139 = .ok (.iload 6, 2) := by decide +kernel
theorem dX5_swap_141 : decode cX5_swap 141 = .ok (.iadd, 1) := by decide +kernel
theorem dX5_swap_142 : decode cX5_swap 142 = .ok (.goto 5, 3) := by decide +kernel
theorem dX5_swap_145 : decode cX5_swap 145 = .ok (.iload 4, 2) := by decide +kernel
theorem dX5_swap_147 : decode cX5_swap 147 = .ok (.istore 4, 2) := by decide +kernel
theorem dX5_swap_149 : decode cX5_swap 149 = .ok (.iload 7, 2) := by decide +kernel
theorem dX5_swap_151 : decode cX5_swap 151 = .ok (.iload_n 3, 1) := by decide +kernel
theorem dX5_swap_152 : decode cX5_swap 152 = .ok (.if_icmp .le 8, 3) := by decide +kernel
theorem dX5_swap_155 : decode cX5_swap 155 = .ok (.iload 7, 2) := by decide +kernel
theorem dX5_swap_157 : decode cX5_swap 157 = .ok (.goto 4, 3) := by decide +kernel
theorem dX5_swap_160 : decode cX5_swap 160 = .ok (.iload_n 3, 1) := by decide +kernel
theorem dX5_swap_161 : decode cX5_swap 161 = .ok (.istore_n 3, 1) := by decide +kernel
theorem dX5_swap_162 : decode cX5_swap 162 = .ok (.iinc 6 1, 3) := by decide +kernel
theorem dX5_swap_165 : decode cX5_swap 165 = .ok (.goto (-109), 3) := by decide +kernel
theorem dX5_swap_168 : decode cX5_swap 168 = .ok (.iinc 5 1, 3) := by decide +kernel
theorem dX5_swap_171 : decode cX5_swap 171 = .ok (.goto (-133), 3) := by decide +kernel
theorem dX5_swap_174 : decode cX5_swap 174 = .ok (.iload 4, 2) := by decide +kernel
theorem dX5_swap_176 : decode cX5_swap 176 = .ok (.bipush (-4), 2) := by decide +kernel
theorem dX5_swap_178 : decode cX5_swap 178 = .ok (.if_icmp .eq 7, 3) := by decide +kernel
theorem dX5_swap_181 : decode cX5_swap 181 = .ok (.iload_n 2, 1) := by decide +kernel
theorem dX5_swap_182 : decode cX5_swap 182 = .ok (.ifCond .ne 8, 3) := by decide +kernel
theorem dX5_swap_185 : decode cX5_swap 185 = .ok (.iload 4, 2) := by decide +kernel
theorem dX5_swap_187 : decode cX5_swap 187 = .ok (.goto 4, 3) := by decide +kernel
theorem dX5_swap_190 : decode cX5_swap 190 = .ok (.iload_n 3, 1) := by decide +kernel
theorem dX5_swap_191 : decode cX5_swap 191 = .ok (.ireturn, 1) := by decide +kernel
theorem dX5_gain_0 : decode cX5_gain 0 = .ok (.iload_n 1, 1) := by decide +kernel
theorem dX5_gain_1 : decode cX5_gain 1 = .ok (.invokestatic 191, 3) := by decide +kernel
theorem dX5_gain_4 : decode cX5_gain 4 = .ok (.ifCond .eq 26, 3) := by decide +kernel
theorem dX5_gain_7 : decode cX5_gain 7 = .ok (.aload_n 0, 1) := by decide +kernel
theorem dX5_gain_8 : decode cX5_gain 8 = .ok (.iload_n 2, 1) := by decide +kernel
theorem dX5_gain_9 : decode cX5_gain 9 = .ok (.invokevirtual 182, 3) := by decide +kernel
theorem dX5_gain_12 : decode cX5_gain 12 = .ok (.ifCond .eq 18, 3) := by decide +kernel
theorem dX5_gain_15 : decode cX5_gain 15 = .ok (.iload_n 3, 1) := by decide +kernel
theorem dX5_gain_16 : decode cX5_gain 16 = .ok (.invokestatic 194, 3) := by decide +kernel
theorem dX5_gain_19 : decode cX5_gain 19 = .ok (.ifCond .eq 11, 3) := by decide +kernel
theorem dX5_gain_22 : decode cX5_gain 22 = .ok (.iload 4, 2) := by decide +kernel
theorem dX5_gain_24 : decode cX5_gain 24 = .ok (.invokestatic 197, 3) := by decide +kernel
theorem dX5_gain_27 : decode cX5_gain 27 = .ok (.ifCond .ne 5, 3) := by decide +kernel
theorem dX5_gain_30 : decode cX5_gain 30 = .ok (.iconst (-1), 1) := by decide +kernel
theorem dX5_gain_31 : decode cX5_gain 31 = .ok (.ireturn, 1) := by decide +kernel
theorem dX5_gain_32 : decode cX5_gain 32 = .ok (.aload_n 0, 1) := by decide +kernel
theorem dX5_gain_33 : decode cX5_gain 33 = .ok (.iconst 0, 1) := by decide +kernel
theorem dX5_gain_34 : decode cX5_gain 34 = .ok (.sipush 275, 3) := by decide +kernel
theorem dX5_gain_37 : decode cX5_gain 37 = .ok (.invokevirtual 216, 3) := by decide +kernel
theorem dX5_gain_40 : decode cX5_gain 40 = .ok (.iconst 0, 1) := by decide +kernel
theorem dX5_gain_41 : decode cX5_gain 41 = .ok (.istore 5, 2) := by decide +kernel
theorem dX5_gain_43 : decode cX5_gain 43 = .ok (.iload 5, 2) := by decide +kernel
theorem dX5_gain_45 : decode cX5_gain 45 = .ok (.bipush 9, 2) := by decide +kernel
theorem dX5_gain_47 : decode cX5_gain 47 = .ok (.if_icmp .gt 40, 3) := by decide +kernel
theorem dX5_gain_50 : decode cX5_gain 50 = .ok (.aload_n 0, 1) := by decide +kernel
theorem dX5_gain_51 : decode cX5_gain 51 = .ok (.getfield 7, 3) := by decide +kernel
theorem dX5_gain_54 : decode cX5_gain 54 = .ok (.sipush 291, 3) := by decide +kernel
theorem dX5_gain_57 : decode cX5_gain 57 = .ok (.iload_n 1, 1) := by decide +kernel
theorem dX5_gain_58 : decode cX5_gain 58 = .ok (.iadd, 1) := by decide +kernel
theorem dX5_gain_59 : decode cX5_gain 59 = .ok (.iload 5, 2) := by decide +kernel
theorem dX5_gain_61 : decode cX5_gain 61 = .ok (.iconst 1, 1) := by decide +kernel
theorem dX5_gain_62 : decode cX5_gain 62 = .ok (.isub, 1) := by decide +kernel
theorem dX5_gain_63 : decode cX5_gain 63 = .ok (.iastore, 1) := by decide +kernel
theorem dX5_gain_64 : decode cX5_gain 64 = .ok (.aload_n 0, 1) := by decide +kernel
theorem dX5_gain_65 : decode cX5_gain 65 = .ok (.sipush 275, 3) := by decide +kernel
theorem dX5_gain_68 : decode cX5_gain 68 = .ok (.iload_n 2, 1) := by decide +kernel
theorem dX5_gain_69 : decode cX5_gain 69 = .ok (.iload 4, 2) := by decide +kernel
theorem dX5_gain_71 : decode cX5_gain 71 = .ok (.invokevirtual 156, 3) := by decide +kernel
theorem dX5_gain_74 : decode cX5_gain 74 = .ok (.iload_n 3, 1) := by decide +kernel
theorem dX5_gain_75 : decode cX5_gain 75 = .ok (.if_icmp .ne 6, 3) := by decide +kernel
theorem dX5_gain_78 : decode cX5_gain 78 = .ok (.iload 5, 2) := by decide +kernel
theorem dX5_gain_80 : decode cX5_gain 80 = .ok (.ireturn, 1) := by decide +kernel
theorem dX5_gain_81 : decode cX5_gain 81 = .ok (.iinc 5 1, 3) := by decide +kernel
theorem dX5_gain_84 : decode cX5_gain 84 = .ok (.goto (-41), 3) := by decide +kernel
theorem dX5_gain_87 : decode cX5_gain 87 = .ok (.bipush (-4), 2) := by decide +kernel
theorem dX5_gain_89 : decode cX5_gain 89 = .ok (.ireturn, 1) := by decide +kernel
theorem dX5_kind_0 : decode cX5_kind 0 = .ok (.aload_n 0, 1) := by decide +kernel
theorem dX5_kind_1 : decode cX5_kind 1 = .ok (.iload_n 1, 1) := by decide +kernel
theorem dX5_kind_2 : decode cX5_kind 2 = .ok (.invokevirtual 182, 3) := by decide +kernel
theorem dX5_kind_5 : decode cX5_kind 5 = .ok (.ifCond .eq 25, 3) := by decide +kernel
theorem dX5_kind_8 : decode cX5_kind 8 = .ok (.iload_n 2, 1) := by decide +kernel
theorem dX5_kind_9 : decode cX5_kind 9 = .ok (.i2l, 1) := by decide +kernel
theorem dX5_kind_10 : decode cX5_kind 10 = .ok (.lconst 0, 1) := by decide +kernel
theorem dX5_kind_11 : decode cX5_kind 11 = .ok (.ldc2_w 226, 3) := by decide +kernel
theorem dX5_kind_14 : decode cX5_kind 14 = .ok (.invokestatic 46, 3) := by decide +kernel
theorem dX5_kind_17 : decode cX5_kind 17 = .ok (.ifCond .eq 13, 3) := by decide +kernel
theorem dX5_kind_20 : decode cX5_kind 20 = .ok (.iload_n 3, 1) := by decide +kernel
theorem dX5_kind_21 : decode cX5_kind 21 = .ok (.i2l, 1) := by decide +kernel
theorem dX5_kind_22 : decode cX5_kind 22 = .ok (.lconst 0, 1) := by decide +kernel
theorem dX5_kind_23 : decode cX5_kind 23 = .ok (.lconst 1, 1) := by decide +kernel
theorem dX5_kind_24 : decode cX5_kind 24 = .ok (.invokestatic 46, 3) := by decide +kernel
theorem dX5_kind_27 : decode cX5_kind 27 = .ok (.ifCond .ne 5, 3) := by decide +kernel
theorem dX5_kind_30 : decode cX5_kind 30 = .ok (.iconst (-1), 1) := by decide +kernel
theorem dX5_kind_31 : decode cX5_kind 31 = .ok (.ireturn, 1) := by decide +kernel
theorem dX5_kind_32 : decode cX5_kind 32 = .ok (.ldc 237, 2) := by decide +kernel
theorem dX5_kind_34 : decode cX5_kind 34 = .ok (.istore 4, 2) := by decide +kernel
theorem dX5_kind_36 : decode cX5_kind 36 = .ok (.iconst 0, 1) := by decide +kernel
theorem dX5_kind_37 : decode cX5_kind 37 = .ok (.istore 5, 2) := by decide +kernel
theorem dX5_kind_39 : decode cX5_kind 39 = .ok (.iconst 0, 1) := by decide +kernel
theorem dX5_kind_40 : decode cX5_kind 40 = .ok (.istore 6, 2) := by decide +kernel
theorem dX5_kind_42 : decode cX5_kind 42 = .ok (.iload 6, 2) := by decide +kernel
theorem dX5_kind_44 : decode cX5_kind 44 = .ok (.iconst 4, 1) := by decide +kernel
theorem dX5_kind_45 : decode cX5_kind 45 = .ok (.if_icmp .ge 71, 3) := by decide +kernel
theorem dX5_kind_48 : decode cX5_kind 48 = .ok (.aload_n 0, 1) := by decide +kernel
theorem dX5_kind_49 : decode cX5_kind 49 = .ok (.iconst 0, 1) := by decide +kernel
theorem dX5_kind_50 : decode cX5_kind 50 = .ok (.sipush 275, 3) := by decide +kernel
theorem dX5_kind_53 : decode cX5_kind 53 = .ok (.invokevirtual 216, 3) := by decide +kernel
theorem dX5_kind_56 : decode cX5_kind 56 = .ok (.aload_n 0, 1) := by decide +kernel
theorem dX5_kind_57 : decode cX5_kind 57 = .ok (.getfield 7, 3) := by decide +kernel
theorem dX5_kind_60 : decode cX5_kind 60 = .ok (.sipush 275, 3) := by decide +kernel
theorem dX5_kind_63 : decode cX5_kind 63 = .ok (.iload_n 1, 1) := by decide +kernel
theorem dX5_kind_64 : decode cX5_kind 64 = .ok (.iadd, 1) := by decide +kernel
theorem dX5_kind_65 : decode cX5_kind 65 = .ok (.iload 6, 2) := by decide +kernel
theorem dX5_kind_67 : decode cX5_kind 67 = .ok (.iastore, 1) := by decide +kernel
theorem dX5_kind_68 : decode cX5_kind 68 = .ok (.aload_n 0, 1) := by decide +kernel
theorem dX5_kind_69 : decode cX5_kind 69 = .ok (.sipush 275, 3) := by decide +kernel
theorem dX5_kind_72 : decode cX5_kind 72 = .ok (.iload_n 2, 1) := by decide +kernel
theorem dX5_kind_73 : decode cX5_kind 73 = .ok (.invokevirtual 228, 3) := by decide +kernel
theorem dX5_kind_76 : decode cX5_kind 76 = .ok (.istore 7, 2) := by decide +kernel
theorem dX5_kind_78 : decode cX5_kind 78 = .ok (.iload 7, 2) := by decide +kernel
theorem dX5_kind_80 : decode cX5_kind 80 = .ok (.iload 4, 2) := by decide +kernel
theorem dX5_kind_82 : decode cX5_kind 82 = .ok (.if_icmp .ge 8, 3) := by decide +kernel
theorem dX5_kind_85 : decode cX5_kind 85 = .ok (.iload 6, 2) := by decide +kernel
theorem dX5_kind_87 : decode cX5_kind 87 = .ok (.goto 5, 3) := by decide +kernel
theorem dX5_kind_90 : decode cX5_kind 90 = .ok (.iload 5, 2) := by decide +kernel
theorem dX5_kind_92 : decode cX5_kind 92 = .ok (.istore 5, 2) := by decide +kernel
theorem dX5_kind_94 : decode cX5_kind 94 = .ok (.iload 7, 2) := by decide +kernel
theorem dX5_kind_96 : decode cX5_kind 96 = .ok (.iload 4, 2) := by decide +kernel
theorem dX5_kind_98 : decode cX5_kind 98 = .ok (.if_icmp .ge 8, 3) := by decide +kernel
theorem dX5_kind_101 : decode cX5_kind 101 = .ok (.iload 7, 2) := by decide +kernel
theorem dX5_kind_103 : decode cX5_kind 103 = .ok (.goto 5, 3) := by decide +kernel
theorem dX5_kind_106 : decode cX5_kind 106 = .ok (.iload 4, 2) := by decide +kernel
theorem dX5_kind_108 : decode cX5_kind 108 = .ok (.istore 4, 2) := by decide +kernel
theorem dX5_kind_110 : decode cX5_kind 110 = .ok (.iinc 6 1, 3) := by decide +kernel
theorem dX5_kind_113 : decode cX5_kind 113 = .ok (.goto (-71), 3) := by decide +kernel
theorem dX5_kind_116 : decode cX5_kind 116 = .ok (.iload_n 3, 1) := by decide +kernel
theorem dX5_kind_117 : decode cX5_kind 117 = .ok (.ifCond .ne 8, 3) := by decide +kernel
theorem dX5_kind_120 : decode cX5_kind 120 = .ok (.iload 5, 2) := by decide +kernel
theorem dX5_kind_122 : decode cX5_kind 122 = .ok (.goto 5, 3) := by decide +kernel
theorem dX5_kind_125 : decode cX5_kind 125 = .ok (.iload 4, 2) := by decide +kernel
theorem dX5_kind_127 : decode cX5_kind 127 = .ok (.ireturn, 1) := by decide +kernel
theorem dX5_lowest_0 : decode cX5_lowest 0 = .ok (.lload_n 0, 1) := by decide +kernel
theorem dX5_lowest_1 : decode cX5_lowest 1 = .ok (.lstore 5, 2) := by decide +kernel
theorem dX5_lowest_3 : decode cX5_lowest 3 = .ok (.lload_n 2, 1) := by decide +kernel
theorem dX5_lowest_4 : decode cX5_lowest 4 = .ok (.lstore 7, 2) := by decide +kernel
theorem dX5_lowest_6 : decode cX5_lowest 6 = .ok (.lload 7, 2) := by decide +kernel
theorem dX5_lowest_8 : decode cX5_lowest 8 = .ok (.lconst 0, 1) := by decide +kernel
theorem dX5_lowest_9 : decode cX5_lowest 9 = .ok (.lcmp, 1) := by decide +kernel
theorem dX5_lowest_10 : decode cX5_lowest 10 = .ok (.ifCond .eq 21, 3) := by decide +kernel
theorem dX5_lowest_13 : decode cX5_lowest 13 = .ok (.lload 5, 2) := by decide +kernel
theorem dX5_lowest_15 : decode cX5_lowest 15 = .ok (.lload 7, 2) := by decide +kernel
theorem dX5_lowest_17 : decode cX5_lowest 17 = .ok (.lrem, 1) := by decide +kernel
theorem dX5_lowest_18 : decode cX5_lowest 18 = .ok (.lstore 9, 2) := by decide +kernel
theorem dX5_lowest_20 : decode cX5_lowest 20 = .ok (.lload 7, 2) := by decide +kernel
theorem dX5_lowest_22 : decode cX5_lowest 22 = .ok (.lstore 5, 2) := by decide +kernel
theorem dX5_lowest_24 : decode cX5_lowest 24 = .ok (.lload 9, 2) := by decide +kernel
theorem dX5_lowest_26 : decode cX5_lowest 26 = .ok (.lstore 7, 2) := by decide +kernel
theorem dX5_lowest_28 : decode cX5_lowest 28 = .ok (.goto (-22), 3) := by decide +kernel
theorem dX5_lowest_31 : decode cX5_lowest 31 = .ok (.iload 4, 2) := by decide +kernel
theorem dX5_lowest_33 : decode cX5_lowest 33 = .ok (.ifCond .ne 7, 3) := by decide +kernel
theorem dX5_lowest_36 : decode cX5_lowest 36 = .ok (.lload_n 0, 1) := by decide +kernel
theorem dX5_lowest_37 : decode cX5_lowest 37 = .ok (.goto 4, 3) := by decide +kernel
theorem dX5_lowest_40 : decode cX5_lowest 40 = .ok (.lload_n 2, 1) := by decide +kernel
theorem dX5_lowest_41 : decode cX5_lowest 41 = .ok (.lload 5, 2) := by decide +kernel
theorem dX5_lowest_43 : decode cX5_lowest 43 = .ok (.ldiv, 1) := by decide +kernel
theorem dX5_lowest_44 : decode cX5_lowest 44 = .ok (.lreturn, 1) := by decide +kernel
theorem dX5_byFalse_0 : decode cX5_byFalse 0 = .ok (.lconst 0, 1) := by decide +kernel
theorem dX5_byFalse_1 : decode cX5_byFalse 1 = .ok (.lstore 6, 2) := by decide +kernel
theorem dX5_byFalse_3 : decode cX5_byFalse 3 = .ok (.lconst 1, 1) := by decide +kernel
theorem dX5_byFalse_4 : decode cX5_byFalse 4 = .ok (.lstore 8, 2) := by decide +kernel
theorem dX5_byFalse_6 : decode cX5_byFalse 6 = .ok (.iconst 0, 1) := by decide +kernel
theorem dX5_byFalse_7 : decode cX5_byFalse 7 = .ok (.istore 10, 2) := by decide +kernel
theorem dX5_byFalse_9 : decode cX5_byFalse 9 = .ok (.iload 10, 2) := by decide +kernel
theorem dX5_byFalse_11 : decode cX5_byFalse 11 = .ok (.aload_n 0, 1) := by decide +kernel
theorem dX5_byFalse_12 : decode cX5_byFalse 12 = .ok (.getfield 7, 3) := by decide +kernel
theorem dX5_byFalse_15 : decode cX5_byFalse 15 = .ok (.bipush 52, 2) := by decide +kernel
theorem dX5_byFalse_17 : decode cX5_byFalse 17 = .ok (.iaload, 1) := by decide +kernel
theorem dX5_byFalse_18 : decode cX5_byFalse 18 = .ok (.if_icmp .ge 17, 3) := by decide +kernel
theorem dX5_byFalse_21 : decode cX5_byFalse 21 = .ok (.lload 8, 2) := by decide +kernel
theorem dX5_byFalse_23 : decode cX5_byFalse 23 = .ok (.ldc2_w 238, 3) := by decide +kernel
theorem dX5_byFalse_26 : decode cX5_byFalse 26 = .ok (.lmul, 1) := by decide +kernel
theorem dX5_byFalse_27 : decode cX5_byFalse 27 = .ok (.lstore 8, 2) := by decide +kernel
theorem dX5_byFalse_29 : decode cX5_byFalse 29 = .ok (.iinc 10 1, 3) := by decide +kernel
theorem dX5_byFalse_32 : decode cX5_byFalse 32 = .ok (.goto (-23), 3) := by decide +kernel
theorem dX5_byFalse_35 : decode cX5_byFalse 35 = .ok (.iconst 0, 1) := by decide +kernel
theorem dX5_byFalse_36 : decode cX5_byFalse 36 = .ok (.istore 10, 2) := by decide +kernel
theorem dX5_byFalse_38 : decode cX5_byFalse 38 = .ok (.iload 10, 2) := by decide +kernel
theorem dX5_byFalse_40 : decode cX5_byFalse 40 = .ok (.iconst 1, 1) := by decide +kernel
theorem dX5_byFalse_41 : decode cX5_byFalse 41 = .ok (.aload_n 0, 1) := by decide +kernel
theorem dX5_byFalse_42 : decode cX5_byFalse 42 = .ok (.getfield 7, 3) := by decide +kernel
theorem dX5_byFalse_45 : decode cX5_byFalse 45 = .ok (.bipush 52, 2) := by decide +kernel
theorem dX5_byFalse_47 : decode cX5_byFalse 47 = .ok (.iaload, 1) := by decide +kernel
theorem dX5_byFalse_48 : decode cX5_byFalse 48 = .ok (.ishl, 1) := by decide +kernel
theorem dX5_byFalse_49 : decode cX5_byFalse 49 = .ok (.if_icmp .ge 107, 3) := by decide +kernel
theorem dX5_byFalse_52 : decode cX5_byFalse 52 = .ok (.lconst 1, 1) := by decide +kernel
theorem dX5_byFalse_53 : decode cX5_byFalse 53 = .ok (.lstore 11, 2) := by decide +kernel
theorem dX5_byFalse_55 : decode cX5_byFalse 55 = .ok (.iconst 0, 1) := by decide +kernel
theorem dX5_byFalse_56 : decode cX5_byFalse 56 = .ok (.istore 13, 2) := by decide +kernel
theorem dX5_byFalse_58 : decode cX5_byFalse 58 = .ok (.iload 13, 2) := by decide +kernel
theorem dX5_byFalse_60 : decode cX5_byFalse 60 = .ok (.aload_n 0, 1) := by decide +kernel
theorem dX5_byFalse_61 : decode cX5_byFalse 61 = .ok (.getfield 7, 3) := by decide +kernel
theorem dX5_byFalse_64 : decode cX5_byFalse 64 = .ok (.bipush 52, 2) := by decide +kernel
theorem dX5_byFalse_66 : decode cX5_byFalse 66 = .ok (.iaload, 1) := by decide +kernel
theorem dX5_byFalse_67 : decode cX5_byFalse 67 = .ok (.if_icmp .ge 35, 3) := by decide +kernel
theorem dX5_byFalse_70 : decode cX5_byFalse 70 = .ok (.lload 11, 2) := by decide +kernel
theorem dX5_byFalse_72 : decode cX5_byFalse 72 = .ok (.iload 10, 2) := by decide +kernel
theorem dX5_byFalse_74 : decode cX5_byFalse 74 = .ok (.iload 13, 2) := by decide +kernel
theorem dX5_byFalse_76 : decode cX5_byFalse 76 = .ok (.ishr, 1) := by decide +kernel
theorem dX5_byFalse_77 : decode cX5_byFalse 77 = .ok (.iconst 1, 1) := by decide +kernel
theorem dX5_byFalse_78 : decode cX5_byFalse 78 = .ok (.iand, 1) := by decide +kernel
theorem dX5_byFalse_79 : decode cX5_byFalse 79 = .ok (.iconst 1, 1) := by decide +kernel
theorem dX5_byFalse_80 : decode cX5_byFalse 80 = .ok (.if_icmp .ne 8, 3) := by decide +kernel
theorem dX5_byFalse_83 : decode cX5_byFalse 83 = .ok (.iload_n 1, 1) := by decide +kernel
theorem dX5_byFalse_84 : decode cX5_byFalse 84 = .ok (.i2l, 1) := by decide +kernel
theorem dX5_byFalse_85 : decode cX5_byFalse 85 = .ok (.goto 8, 3) := by decide +kernel
theorem dX5_byFalse_88 : decode cX5_byFalse 88 = .ok (.bipush 10, 2) := by decide +kernel
theorem dX5_byFalse_90 : decode cX5_byFalse 90 = .ok (.iload_n 1, 1) := by decide +kernel
theorem dX5_byFalse_91 : decode cX5_byFalse 91 = .ok (.isub, 1) := by decide +kernel
theorem dX5_byFalse_92 : decode cX5_byFalse 92 = .ok (.i2l, 1) := by decide +kernel
theorem dX5_byFalse_93 : decode cX5_byFalse 93 = .ok (.lmul, 1) := by decide +kernel
theorem dX5_byFalse_94 : decode cX5_byFalse 94 = .ok (.lstore 11, 2) := by decide +kernel
theorem dX5_byFalse_96 : decode cX5_byFalse 96 = .ok (.iinc 13 1, 3) := by decide +kernel
theorem dX5_byFalse_99 : decode cX5_byFalse 99 = .ok (.goto (-41), 3) := by decide +kernel
theorem dX5_byFalse_102 : decode cX5_byFalse 102 = .ok (.aload_n 0, 1) := by decide +kernel
theorem dX5_byFalse_103 : decode cX5_byFalse 103 = .ok (.iload 10, 2) := by decide +kernel
theorem dX5_byFalse_105 : decode cX5_byFalse 105 = .ok (.putfield 149, 3) := by decide +kernel
theorem dX5_byFalse_108 : decode cX5_byFalse 108 = .ok (.lload 6, 2) := by decide +kernel
theorem dX5_byFalse_110 : decode cX5_byFalse 110 = .ok (.lload 11, 2) := by decide +kernel
theorem dX5_byFalse_112 : decode cX5_byFalse 112 = .ok (.iload_n 2, 1) := by decide +kernel
theorem dX5_byFalse_113 : decode cX5_byFalse 113 = .ok (.bipush (-4), 2) := by decide +kernel
theorem dX5_byFalse_115 : decode cX5_byFalse 115 = .ok (.if_icmp .ne 13, 3) := by decide +kernel
theorem dX5_byFalse_118 : decode cX5_byFalse 118 = .ok (.aload_n 0, 1) := by decide +kernel
theorem dX5_byFalse_119 : decode cX5_byFalse 119 = .ok (.iconst 0, 1) := by decide +kernel
theorem dX5_byFalse_120 : decode cX5_byFalse 120 = .ok (.iload 4, 2) := by decide +kernel
theorem dX5_byFalse_122 : decode cX5_byFalse 122 = .ok (.invokevirtual 228, 3) := by decide +kernel
theorem dX5_byFalse_125 : decode cX5_byFalse 125 = .ok (.goto 20, 3) := by decide +kernel
theorem dX5_byFalse_128 : decode cX5_byFalse 128 = .ok (.aload_n 0, 1) := by decide +kernel
theorem dX5_byFalse_129 : decode cX5_byFalse 129 = .ok (.iconst 0, 1) := by decide +kernel
theorem dX5_byFalse_130 : decode cX5_byFalse 130 = .ok (.iload_n 2, 1) := by decide +kernel
theorem dX5_byFalse_131 : decode cX5_byFalse 131 = .ok (.iload 4, 2) := by decide +kernel
theorem dX5_byFalse_133 : decode cX5_byFalse 133 = .ok (.invokevirtual 156, 3) := by decide +kernel
theorem dX5_byFalse_136 : decode cX5_byFalse 136 = .ok (.iload_n 3, 1) := by decide +kernel
theorem dX5_byFalse_137 : decode cX5_byFalse 137 = .ok (.if_icmp .ne 7, 3) := by decide +kernel
theorem dX5_byFalse_140 : decode cX5_byFalse 140 = .ok (.iconst 1, 1) := by decide +kernel
theorem dX5_byFalse_141 : decode cX5_byFalse 141 = .ok (.goto 4, 3) := by decide +kernel
theorem dX5_byFalse_144 : decode cX5_byFalse 144 = .ok (.iconst 0, 1) := by decide +kernel
theorem dX5_byFalse_145 : decode cX5_byFalse 145 = .ok (.i2l, 1) := by decide +kernel
theorem dX5_byFalse_146 : decode cX5_byFalse 146 = .ok (.lmul, 1) := by decide +kernel
theorem dX5_byFalse_147 : decode cX5_byFalse 147 = .ok (.ladd, 1) := by decide +kernel
theorem dX5_byFalse_148 : decode cX5_byFalse 148 = .ok (.lstore 6, 2) := by decide +kernel
theorem dX5_byFalse_150 : decode cX5_byFalse 150 = .ok (.iinc 10 1, 3) := by decide +kernel
theorem dX5_byFalse_153 : decode cX5_byFalse 153 = .ok (.goto (-115), 3) := by decide +kernel
theorem dX5_byFalse_156 : decode cX5_byFalse 156 = .ok (.aload_n 0, 1) := by decide +kernel
theorem dX5_byFalse_157 : decode cX5_byFalse 157 = .ok (.iconst 0, 1) := by decide +kernel
theorem dX5_byFalse_158 : decode cX5_byFalse 158 = .ok (.putfield 149, 3) := by decide +kernel
theorem dX5_byFalse_161 : decode cX5_byFalse 161 = .ok (.lload 6, 2) := by decide +kernel
theorem dX5_byFalse_163 : decode cX5_byFalse 163 = .ok (.lload 8, 2) := by decide +kernel
theorem dX5_byFalse_165 : decode cX5_byFalse 165 = .ok (.iload 5, 2) := by decide +kernel
theorem dX5_byFalse_167 : decode cX5_byFalse 167 = .ok (.invokestatic 240, 3) := by decide +kernel
theorem dX5_byFalse_170 : decode cX5_byFalse 170 = .ok (.lreturn, 1) := by decide +kernel
theorem dX5_luck_0 : decode cX5_luck 0 = .ok (.iload_n 1, 1) := by decide +kernel
theorem dX5_luck_1 : decode cX5_luck 1 = .ok (.i2l, 1) := by decide +kernel
theorem dX5_luck_2 : decode cX5_luck 2 = .ok (.lconst 0, 1) := by decide +kernel
theorem dX5_luck_3 : decode cX5_luck 3 = .ok (.ldc2_w 238, 3) := by decide +kernel
theorem dX5_luck_6 : decode cX5_luck 6 = .ok (.invokestatic 46, 3) := by decide +kernel
theorem dX5_luck_9 : decode cX5_luck 9 = .ok (.ifCond .eq 51, 3) := by decide +kernel
theorem dX5_luck_12 : decode cX5_luck 12 = .ok (.aload_n 0, 1) := by decide +kernel
theorem dX5_luck_13 : decode cX5_luck 13 = .ok (.iload_n 2, 1) := by decide +kernel
theorem dX5_luck_14 : decode cX5_luck 14 = .ok (.invokevirtual 182, 3) := by decide +kernel
theorem dX5_luck_17 : decode cX5_luck 17 = .ok (.ifCond .eq 43, 3) := by decide +kernel
theorem dX5_luck_20 : decode cX5_luck 20 = .ok (.iload_n 3, 1) := by decide +kernel
theorem dX5_luck_21 : decode cX5_luck 21 = .ok (.invokestatic 194, 3) := by decide +kernel
theorem dX5_luck_24 : decode cX5_luck 24 = .ok (.ifCond .eq 36, 3) := by decide +kernel
theorem dX5_luck_27 : decode cX5_luck 27 = .ok (.iload 4, 2) := by decide +kernel
theorem dX5_luck_29 : decode cX5_luck 29 = .ok (.invokestatic 197, 3) := by decide +kernel
theorem dX5_luck_32 : decode cX5_luck 32 = .ok (.ifCond .eq 28, 3) := by decide +kernel
theorem dX5_luck_35 : decode cX5_luck 35 = .ok (.iload 5, 2) := by decide +kernel
theorem dX5_luck_37 : decode cX5_luck 37 = .ok (.i2l, 1) := by decide +kernel
theorem dX5_luck_38 : decode cX5_luck 38 = .ok (.lconst 0, 1) := by decide +kernel
theorem dX5_luck_39 : decode cX5_luck 39 = .ok (.lconst 1, 1) := by decide +kernel
theorem dX5_luck_40 : decode cX5_luck 40 = .ok (.invokestatic 46, 3) := by decide +kernel
theorem dX5_luck_43 : decode cX5_luck 43 = .ok (.ifCond .eq 17, 3) := by decide +kernel
theorem dX5_luck_46 : decode cX5_luck 46 = .ok (.aload_n 0, 1) := by decide +kernel
theorem dX5_luck_47 : decode cX5_luck 47 = .ok (.iload_n 1, 1) := by decide +kernel
theorem dX5_luck_48 : decode cX5_luck 48 = .ok (.iload_n 2, 1) := by decide +kernel
theorem dX5_luck_49 : decode cX5_luck 49 = .ok (.iload_n 3, 1) := by decide +kernel
theorem dX5_luck_50 : decode cX5_luck 50 = .ok (.iload 4, 2) := by decide +kernel
theorem dX5_luck_52 : decode cX5_luck 52 = .ok (.iload 5, 2) := by decide +kernel
theorem dX5_luck_54 : decode cX5_luck 54 = .ok (.invokevirtual 244, 3) := by decide +kernel
theorem dX5_luck_57 : decode cX5_luck 57 = .ok (.goto 6, 3) := by decide +kernel
theorem dX5_luck_60 : decode cX5_luck 60 = .ok (.ldc2_w 248, 3) := by decide +kernel
theorem dX5_luck_63 : decode cX5_luck 63 = .ok (.lreturn, 1) := by decide +kernel
theorem dX5_mean_0 : decode cX5_mean 0 = .ok (.iload_n 1, 1) := by decide +kernel
theorem dX5_mean_1 : decode cX5_mean 1 = .ok (.i2l, 1) := by decide +kernel
theorem dX5_mean_2 : decode cX5_mean 2 = .ok (.lconst 0, 1) := by decide +kernel
theorem dX5_mean_3 : decode cX5_mean 3 = .ok (.ldc2_w 238, 3) := by decide +kernel
theorem dX5_mean_6 : decode cX5_mean 6 = .ok (.invokestatic 46, 3) := by decide +kernel
theorem dX5_mean_9 : decode cX5_mean 9 = .ok (.ifCond .eq 38, 3) := by decide +kernel
theorem dX5_mean_12 : decode cX5_mean 12 = .ok (.iload_n 2, 1) := by decide +kernel
theorem dX5_mean_13 : decode cX5_mean 13 = .ok (.i2l, 1) := by decide +kernel
theorem dX5_mean_14 : decode cX5_mean 14 = .ok (.lconst 0, 1) := by decide +kernel
theorem dX5_mean_15 : decode cX5_mean 15 = .ok (.ldc2_w 250, 3) := by decide +kernel
theorem dX5_mean_18 : decode cX5_mean 18 = .ok (.invokestatic 46, 3) := by decide +kernel
theorem dX5_mean_21 : decode cX5_mean 21 = .ok (.ifCond .eq 26, 3) := by decide +kernel
theorem dX5_mean_24 : decode cX5_mean 24 = .ok (.iload_n 3, 1) := by decide +kernel
theorem dX5_mean_25 : decode cX5_mean 25 = .ok (.i2l, 1) := by decide +kernel
theorem dX5_mean_26 : decode cX5_mean 26 = .ok (.lconst 0, 1) := by decide +kernel
theorem dX5_mean_27 : decode cX5_mean 27 = .ok (.lconst 1, 1) := by decide +kernel
theorem dX5_mean_28 : decode cX5_mean 28 = .ok (.invokestatic 46, 3) := by decide +kernel
theorem dX5_mean_31 : decode cX5_mean 31 = .ok (.ifCond .eq 16, 3) := by decide +kernel
theorem dX5_mean_34 : decode cX5_mean 34 = .ok (.aload_n 0, 1) := by decide +kernel
theorem dX5_mean_35 : decode cX5_mean 35 = .ok (.iload_n 1, 1) := by decide +kernel
theorem dX5_mean_36 : decode cX5_mean 36 = .ok (.bipush (-4), 2) := by decide +kernel
theorem dX5_mean_38 : decode cX5_mean 38 = .ok (.iconst 0, 1) := by decide +kernel
theorem dX5_mean_39 : decode cX5_mean 39 = .ok (.iload_n 2, 1) := by decide +kernel
theorem dX5_mean_40 : decode cX5_mean 40 = .ok (.iload_n 3, 1) := by decide +kernel
theorem dX5_mean_41 : decode cX5_mean 41 = .ok (.invokevirtual 244, 3) := by decide +kernel
theorem dX5_mean_44 : decode cX5_mean 44 = .ok (.goto 6, 3) := by decide +kernel
theorem dX5_mean_47 : decode cX5_mean 47 = .ok (.ldc2_w 248, 3) := by decide +kernel
theorem dX5_mean_50 : decode cX5_mean 50 = .ok (.lreturn, 1) := by decide +kernel
theorem dX5_see_0 : decode cX5_see 0 = .ok (.iload_n 1, 1) := by decide +kernel
theorem dX5_see_1 : decode cX5_see 1 = .ok (.i2l, 1) := by decide +kernel
theorem dX5_see_2 : decode cX5_see 2 = .ok (.lconst 0, 1) := by decide +kernel
theorem dX5_see_3 : decode cX5_see 3 = .ok (.ldc2_w 250, 3) := by decide +kernel
theorem dX5_see_6 : decode cX5_see 6 = .ok (.invokestatic 46, 3) := by decide +kernel
theorem dX5_see_9 : decode cX5_see 9 = .ok (.ifCond .eq 23, 3) := by decide +kernel
theorem dX5_see_12 : decode cX5_see 12 = .ok (.aload_n 0, 1) := by decide +kernel
theorem dX5_see_13 : decode cX5_see 13 = .ok (.iload_n 2, 1) := by decide +kernel
theorem dX5_see_14 : decode cX5_see 14 = .ok (.invokevirtual 182, 3) := by decide +kernel
theorem dX5_see_17 : decode cX5_see 17 = .ok (.ifCond .eq 15, 3) := by decide +kernel
theorem dX5_see_20 : decode cX5_see 20 = .ok (.iload_n 3, 1) := by decide +kernel
theorem dX5_see_21 : decode cX5_see 21 = .ok (.i2l, 1) := by decide +kernel
theorem dX5_see_22 : decode cX5_see 22 = .ok (.lconst 0, 1) := by decide +kernel
theorem dX5_see_23 : decode cX5_see 23 = .ok (.ldc2_w 200, 3) := by decide +kernel
theorem dX5_see_26 : decode cX5_see 26 = .ok (.invokestatic 46, 3) := by decide +kernel
theorem dX5_see_29 : decode cX5_see 29 = .ok (.ifCond .ne 5, 3) := by decide +kernel
theorem dX5_see_32 : decode cX5_see 32 = .ok (.iconst (-1), 1) := by decide +kernel
theorem dX5_see_33 : decode cX5_see 33 = .ok (.ireturn, 1) := by decide +kernel
theorem dX5_see_34 : decode cX5_see 34 = .ok (.aload_n 0, 1) := by decide +kernel
theorem dX5_see_35 : decode cX5_see 35 = .ok (.getfield 134, 3) := by decide +kernel
theorem dX5_see_38 : decode cX5_see 38 = .ok (.bipush 6, 2) := by decide +kernel
theorem dX5_see_40 : decode cX5_see 40 = .ok (.if_icmp .ne 6, 3) := by decide +kernel
theorem dX5_see_43 : decode cX5_see 43 = .ok (.bipush (-3), 2) := by decide +kernel
theorem dX5_see_45 : decode cX5_see 45 = .ok (.ireturn, 1) := by decide +kernel
theorem dX5_see_46 : decode cX5_see 46 = .ok (.aload_n 0, 1) := by decide +kernel
theorem dX5_see_47 : decode cX5_see 47 = .ok (.getfield 25, 3) := by decide +kernel
theorem dX5_see_50 : decode cX5_see 50 = .ok (.iconst 3, 1) := by decide +kernel
theorem dX5_see_51 : decode cX5_see 51 = .ok (.aload_n 0, 1) := by decide +kernel
theorem dX5_see_52 : decode cX5_see 52 = .ok (.getfield 134, 3) := by decide +kernel
theorem dX5_see_55 : decode cX5_see 55 = .ok (.imul, 1) := by decide +kernel
theorem dX5_see_56 : decode cX5_see 56 = .ok (.iload_n 1, 1) := by decide +kernel
theorem dX5_see_57 : decode cX5_see 57 = .ok (.iastore, 1) := by decide +kernel
theorem dX5_see_58 : decode cX5_see 58 = .ok (.aload_n 0, 1) := by decide +kernel
theorem dX5_see_59 : decode cX5_see 59 = .ok (.getfield 25, 3) := by decide +kernel
theorem dX5_see_62 : decode cX5_see 62 = .ok (.iconst 3, 1) := by decide +kernel
theorem dX5_see_63 : decode cX5_see 63 = .ok (.aload_n 0, 1) := by decide +kernel
theorem dX5_see_64 : decode cX5_see 64 = .ok (.getfield 134, 3) := by decide +kernel
theorem dX5_see_67 : decode cX5_see 67 = .ok (.imul, 1) := by decide +kernel
theorem dX5_see_68 : decode cX5_see 68 = .ok (.iconst 1, 1) := by decide +kernel
theorem dX5_see_69 : decode cX5_see 69 = .ok (.iadd, 1) := by decide +kernel
theorem dX5_see_70 : decode cX5_see 70 = .ok (.iload_n 2, 1) := by decide +kernel
theorem dX5_see_71 : decode cX5_see 71 = .ok (.iastore, 1) := by decide +kernel
theorem dX5_see_72 : decode cX5_see 72 = .ok (.aload_n 0, 1) := by decide +kernel
theorem dX5_see_73 : decode cX5_see 73 = .ok (.getfield 25, 3) := by decide +kernel
theorem dX5_see_76 : decode cX5_see 76 = .ok (.iconst 3, 1) := by decide +kernel
theorem dX5_see_77 : decode cX5_see 77 = .ok (.aload_n 0, 1) := by decide +kernel
theorem dX5_see_78 : decode cX5_see 78 = .ok (.getfield 134, 3) := by decide +kernel
theorem dX5_see_81 : decode cX5_see 81 = .ok (.imul, 1) := by decide +kernel
theorem dX5_see_82 : decode cX5_see 82 = .ok (.iconst 2, 1) := by decide +kernel
theorem dX5_see_83 : decode cX5_see 83 = .ok (.iadd, 1) := by decide +kernel
theorem dX5_see_84 : decode cX5_see 84 = .ok (.iload_n 3, 1) := by decide +kernel
theorem dX5_see_85 : decode cX5_see 85 = .ok (.iastore, 1) := by decide +kernel
theorem dX5_see_86 : decode cX5_see 86 = .ok (.aload_n 0, 1) := by decide +kernel
theorem dX5_see_87 : decode cX5_see 87 = .ok (.dup, 1) := by decide +kernel
theorem dX5_see_88 : decode cX5_see 88 = .ok (.getfield 134, 3) := by decide +kernel
theorem dX5_see_91 : decode cX5_see 91 = .ok (.iconst 1, 1) := by decide +kernel
theorem dX5_see_92 : decode cX5_see 92 = .ok (.iadd, 1) := by decide +kernel
theorem dX5_see_93 : decode cX5_see 93 = .ok (.putfield 134, 3) := by decide +kernel
theorem dX5_see_96 : decode cX5_see 96 = .ok (.aload_n 0, 1) := by decide +kernel
theorem dX5_see_97 : decode cX5_see 97 = .ok (.getfield 134, 3) := by decide +kernel
theorem dX5_see_100 : decode cX5_see 100 = .ok (.ireturn, 1) := by decide +kernel
theorem dX5_forget_0 : decode cX5_forget 0 = .ok (.iload_n 1, 1) := by decide +kernel
theorem dX5_forget_1 : decode cX5_forget 1 = .ok (.i2l, 1) := by decide +kernel
theorem dX5_forget_2 : decode cX5_forget 2 = .ok (.lconst 0, 1) := by decide +kernel
theorem dX5_forget_3 : decode cX5_forget 3 = .ok (.aload_n 0, 1) := by decide +kernel
theorem dX5_forget_4 : decode cX5_forget 4 = .ok (.getfield 134, 3) := by decide +kernel
theorem dX5_forget_7 : decode cX5_forget 7 = .ok (.i2l, 1) := by decide +kernel
theorem dX5_forget_8 : decode cX5_forget 8 = .ok (.invokestatic 46, 3) := by decide +kernel
theorem dX5_forget_11 : decode cX5_forget 11 = .ok (.ifCond .ne 5, 3) := by decide +kernel
theorem dX5_forget_14 : decode cX5_forget 14 = .ok (.iconst (-1), 1) := by decide +kernel
theorem dX5_forget_15 : decode cX5_forget 15 = .ok (.ireturn, 1) := by decide +kernel
theorem dX5_forget_16 : decode cX5_forget 16 = .ok (.aload_n 0, 1) := by decide +kernel
theorem dX5_forget_17 : decode cX5_forget 17 = .ok (.getfield 134, 3) := by decide +kernel
theorem dX5_forget_20 : decode cX5_forget 20 = .ok (.istore_n 2, 1) := by decide +kernel
theorem dX5_forget_21 : decode cX5_forget 21 = .ok (.aload_n 0, 1) := by decide +kernel
theorem dX5_forget_22 : decode cX5_forget 22 = .ok (.iload_n 1, 1) := by decide +kernel
theorem dX5_forget_23 : decode cX5_forget 23 = .ok (.putfield 134, 3) := by decide +kernel
theorem dX5_forget_26 : decode cX5_forget 26 = .ok (.iload_n 2, 1) := by decide +kernel
theorem dX5_forget_27 : decode cX5_forget 27 = .ok (.ireturn, 1) := by decide +kernel
theorem dX5_isAsSeen_0 : decode cX5_isAsSeen 0 = .ok (.aload_n 0, 1) := by decide +kernel
theorem dX5_isAsSeen_1 : decode cX5_isAsSeen 1 = .ok (.iconst 0, 1) := by decide +kernel
theorem dX5_isAsSeen_2 : decode cX5_isAsSeen 2 = .ok (.sipush 220, 3) := by decide +kernel
theorem dX5_isAsSeen_5 : decode cX5_isAsSeen 5 = .ok (.invokevirtual 216, 3) := by decide +kernel
theorem dX5_isAsSeen_8 : decode cX5_isAsSeen 8 = .ok (.iconst 1, 1) := by decide +kernel
theorem dX5_isAsSeen_9 : decode cX5_isAsSeen 9 = .ok (.istore_n 2, 1) := by decide +kernel
theorem dX5_isAsSeen_10 : decode cX5_isAsSeen 10 = .ok (.iconst 0, 1) := by decide +kernel
theorem dX5_isAsSeen_11 : decode cX5_isAsSeen 11 = .ok (.istore_n 3, 1) := by decide +kernel
theorem dX5_isAsSeen_12 : decode cX5_isAsSeen 12 = .ok (.iload_n 3, 1) := by decide +kernel
theorem dX5_isAsSeen_13 : decode cX5_isAsSeen 13 = .ok (.bipush 20, 2) := by decide +kernel
theorem dX5_isAsSeen_15 : decode cX5_isAsSeen 15 = .ok (.if_icmp .gt 136, 3) := by decide +kernel
theorem dX5_isAsSeen_18 : decode cX5_isAsSeen 18 = .ok (.iconst 0, 1) := by decide +kernel
theorem dX5_isAsSeen_19 : decode cX5_isAsSeen 19 = .ok (.istore 4, 2) := by decide +kernel
theorem dX5_isAsSeen_21 : decode cX5_isAsSeen 21 = .ok (.iload 4, 2) := by decide +kernel
theorem dX5_isAsSeen_23 : decode cX5_isAsSeen 23 = .ok (.aload_n 0, 1) := by decide +kernel
theorem dX5_isAsSeen_24 : decode cX5_isAsSeen 24 = .ok (.getfield 131, 3) := by decide +kernel
theorem dX5_isAsSeen_27 : decode cX5_isAsSeen 27 = .ok (.if_icmp .ge 36, 3) := by decide +kernel
theorem dX5_isAsSeen_30 : decode cX5_isAsSeen 30 = .ok (.aload_n 0, 1) := by decide +kernel
theorem dX5_isAsSeen_31 : decode cX5_isAsSeen 31 = .ok (.getfield 28, 3) := by decide +kernel
theorem dX5_isAsSeen_34 : decode cX5_isAsSeen 34 = .ok (.bipush 105, 2) := by decide +kernel
theorem dX5_isAsSeen_36 : decode cX5_isAsSeen 36 = .ok (.iload_n 1, 1) := by decide +kernel
theorem dX5_isAsSeen_37 : decode cX5_isAsSeen 37 = .ok (.imul, 1) := by decide +kernel
theorem dX5_isAsSeen_38 : decode cX5_isAsSeen 38 = .ok (.iconst 5, 1) := by decide +kernel
theorem dX5_isAsSeen_39 : decode cX5_isAsSeen 39 = .ok (.iload_n 3, 1) := by decide +kernel
theorem dX5_isAsSeen_40 : decode cX5_isAsSeen 40 = .ok (.imul, 1) := by decide +kernel
theorem dX5_isAsSeen_41 : decode cX5_isAsSeen 41 = .ok (.iadd, 1) := by decide +kernel
theorem dX5_isAsSeen_42 : decode cX5_isAsSeen 42 = .ok (.iload 4, 2) := by decide +kernel
theorem dX5_isAsSeen_44 : decode cX5_isAsSeen 44 = .ok (.iadd, 1) := by decide +kernel
theorem dX5_isAsSeen_45 : decode cX5_isAsSeen 45 = .ok (.aload_n 0, 1) := by decide +kernel
theorem dX5_isAsSeen_46 : decode cX5_isAsSeen 46 = .ok (.getfield 7, 3) := by decide +kernel
theorem dX5_isAsSeen_49 : decode cX5_isAsSeen 49 = .ok (.sipush 225, 3) := by decide +kernel
theorem dX5_isAsSeen_52 : decode cX5_isAsSeen 52 = .ok (.iload 4, 2) := by decide +kernel
theorem dX5_isAsSeen_54 : decode cX5_isAsSeen 54 = .ok (.iadd, 1) := by decide +kernel
theorem dX5_isAsSeen_55 : decode cX5_isAsSeen 55 = .ok (.iaload, 1) := by decide +kernel
theorem dX5_isAsSeen_56 : decode cX5_isAsSeen 56 = .ok (.iastore, 1) := by decide +kernel
theorem dX5_isAsSeen_57 : decode cX5_isAsSeen 57 = .ok (.iinc 4 1, 3) := by decide +kernel
theorem dX5_isAsSeen_60 : decode cX5_isAsSeen 60 = .ok (.goto (-39), 3) := by decide +kernel
theorem dX5_isAsSeen_63 : decode cX5_isAsSeen 63 = .ok (.iconst 0, 1) := by decide +kernel
theorem dX5_isAsSeen_64 : decode cX5_isAsSeen 64 = .ok (.istore 4, 2) := by decide +kernel
theorem dX5_isAsSeen_66 : decode cX5_isAsSeen 66 = .ok (.iload 4, 2) := by decide +kernel
theorem dX5_isAsSeen_68 : decode cX5_isAsSeen 68 = .ok (.aload_n 0, 1) := by decide +kernel
theorem dX5_isAsSeen_69 : decode cX5_isAsSeen 69 = .ok (.getfield 134, 3) := by decide +kernel
theorem dX5_isAsSeen_72 : decode cX5_isAsSeen 72 = .ok (.if_icmp .ge 66, 3) := by decide +kernel
theorem dX5_isAsSeen_75 : decode cX5_isAsSeen 75 = .ok (.iload_n 2, 1) := by decide +kernel
theorem dX5_isAsSeen_76 : decode cX5_isAsSeen 76 = .ok (.ifCond .eq 54, 3) := by decide +kernel
theorem dX5_isAsSeen_79 : decode cX5_isAsSeen 79 = .ok (.aload_n 0, 1) := by decide +kernel
theorem dX5_isAsSeen_80 : decode cX5_isAsSeen 80 = .ok (.getfield 25, 3) := by decide +kernel
theorem dX5_isAsSeen_83 : decode cX5_isAsSeen 83 = .ok (.iconst 3, 1) := by decide +kernel
theorem dX5_isAsSeen_84 : decode cX5_isAsSeen 84 = .ok (.iload 4, 2) := by decide +kernel
theorem dX5_isAsSeen_86 : decode cX5_isAsSeen 86 = .ok (.imul, 1) := by decide +kernel
theorem dX5_isAsSeen_87 : decode cX5_isAsSeen 87 = .ok (.iaload, 1) := by decide +kernel
theorem dX5_isAsSeen_88 : decode cX5_isAsSeen 88 = .ok (.iload_n 3, 1) := by decide +kernel
theorem dX5_isAsSeen_89 : decode cX5_isAsSeen 89 = .ok (.if_icmp .ne 37, 3) := by decide +kernel
theorem dX5_isAsSeen_92 : decode cX5_isAsSeen 92 = .ok (.aload_n 0, 1) := by decide +kernel
theorem dX5_isAsSeen_93 : decode cX5_isAsSeen 93 = .ok (.getfield 7, 3) := by decide +kernel
theorem dX5_isAsSeen_96 : decode cX5_isAsSeen 96 = .ok (.sipush 225, 3) := by decide +kernel
theorem dX5_isAsSeen_99 : decode cX5_isAsSeen 99 = .ok (.aload_n 0, 1) := by decide +kernel
theorem dX5_isAsSeen_100 : decode cX5_isAsSeen 100 = .ok (.getfield 25, 3) := by decide +kernel
theorem dX5_isAsSeen_103 : decode cX5_isAsSeen 103 = .ok (.iconst 3, 1) := by decide +kernel
theorem dX5_isAsSeen_104 : decode cX5_isAsSeen 104 = .ok (.iload 4, 2) := by decide +kernel
theorem dX5_isAsSeen_106 : decode cX5_isAsSeen 106 = .ok (.imul, 1) := by decide +kernel
theorem dX5_isAsSeen_107 : decode cX5_isAsSeen 107 = .ok (.iconst 1, 1) := by decide +kernel
theorem dX5_isAsSeen_108 : decode cX5_isAsSeen 108 = .ok (.iadd, 1) := by decide +kernel
theorem dX5_isAsSeen_109 : decode cX5_isAsSeen 109 = .ok (.iaload, 1) := by decide +kernel
theorem dX5_isAsSeen_110 : decode cX5_isAsSeen 110 = .ok (.iadd, 1) := by decide +kernel
theorem dX5_isAsSeen_111 : decode cX5_isAsSeen 111 = .ok (.iaload, 1) := by decide +kernel
theorem dX5_isAsSeen_112 : decode cX5_isAsSeen 112 = .ok (.aload_n 0, 1) := by decide +kernel
theorem dX5_isAsSeen_113 : decode cX5_isAsSeen 113 = .ok (.getfield 25, 3) := by decide +kernel
theorem dX5_isAsSeen_116 : decode cX5_isAsSeen 116 = .ok (.iconst 3, 1) := by decide +kernel
theorem dX5_isAsSeen_117 : decode cX5_isAsSeen 117 = .ok (.iload 4, 2) := by decide +kernel
theorem dX5_isAsSeen_119 : decode cX5_isAsSeen 119 = .ok (.imul, 1) := by decide +kernel
theorem dX5_isAsSeen_120 : decode cX5_isAsSeen 120 = .ok (.iconst 2, 1) := by decide +kernel
theorem dX5_isAsSeen_121 : decode cX5_isAsSeen 121 = .ok (.iadd, 1) := by decide +kernel
theorem dX5_isAsSeen_122 : decode cX5_isAsSeen 122 = .ok (.iaload, 1) := by decide +kernel
theorem dX5_isAsSeen_123 : decode cX5_isAsSeen 123 = .ok (.if_icmp .ne 7, 3) := by decide +kernel
theorem dX5_isAsSeen_126 : decode cX5_isAsSeen 126 = .ok (.iconst 1, 1) := by decide +kernel
theorem dX5_isAsSeen_127 : decode cX5_isAsSeen 127 = .ok (.goto 4, 3) := by decide +kernel
theorem dX5_isAsSeen_130 : decode cX5_isAsSeen 130 = .ok (.iconst 0, 1) := by decide +kernel
theorem dX5_isAsSeen_131 : decode cX5_isAsSeen 131 = .ok (.istore_n 2, 1) := by decide +kernel
theorem dX5_isAsSeen_132 : decode cX5_isAsSeen 132 = .ok (.iinc 4 1, 3) := by decide +kernel
theorem dX5_isAsSeen_135 : decode cX5_isAsSeen 135 = .ok (.goto (-69), 3) := by decide +kernel
theorem dX5_isAsSeen_138 : decode cX5_isAsSeen 138 = .ok (.aload_n 0, 1) := by decide +kernel
theorem dX5_isAsSeen_139 : decode cX5_isAsSeen 139 = .ok (.sipush 220, 3) := by decide +kernel
theorem dX5_isAsSeen_142 : decode cX5_isAsSeen 142 = .ok (.invokevirtual 213, 3) := by decide +kernel
theorem dX5_isAsSeen_145 : decode cX5_isAsSeen 145 = .ok (.iinc 3 1, 3) := by decide +kernel
theorem dX5_isAsSeen_148 : decode cX5_isAsSeen 148 = .ok (.goto (-136), 3) := by decide +kernel
theorem dX5_isAsSeen_151 : decode cX5_isAsSeen 151 = .ok (.iload_n 2, 1) := by decide +kernel
theorem dX5_isAsSeen_152 : decode cX5_isAsSeen 152 = .ok (.ireturn, 1) := by decide +kernel
theorem dX5_kinds_0 : decode cX5_kinds 0 = .ok (.aload_n 0, 1) := by decide +kernel
theorem dX5_kinds_1 : decode cX5_kinds 1 = .ok (.iload_n 1, 1) := by decide +kernel
theorem dX5_kinds_2 : decode cX5_kinds 2 = .ok (.invokevirtual 182, 3) := by decide +kernel
theorem dX5_kinds_5 : decode cX5_kinds 5 = .ok (.ifCond .ne 5, 3) := by decide +kernel
theorem dX5_kinds_8 : decode cX5_kinds 8 = .ok (.iconst (-1), 1) := by decide +kernel
theorem dX5_kinds_9 : decode cX5_kinds 9 = .ok (.ireturn, 1) := by decide +kernel
theorem dX5_kinds_10 : decode cX5_kinds 10 = .ok (.aload_n 0, 1) := by decide +kernel
theorem dX5_kinds_11 : decode cX5_kinds 11 = .ok (.getfield 7, 3) := by decide +kernel
theorem dX5_kinds_14 : decode cX5_kinds 14 = .ok (.iload_n 1, 1) := by decide +kernel
theorem dX5_kinds_15 : decode cX5_kinds 15 = .ok (.iaload, 1) := by decide +kernel
theorem dX5_kinds_16 : decode cX5_kinds 16 = .ok (.istore_n 2, 1) := by decide +kernel
theorem dX5_kinds_17 : decode cX5_kinds 17 = .ok (.iconst 0, 1) := by decide +kernel
theorem dX5_kinds_18 : decode cX5_kinds 18 = .ok (.istore_n 3, 1) := by decide +kernel
theorem dX5_kinds_19 : decode cX5_kinds 19 = .ok (.iconst 0, 1) := by decide +kernel
theorem dX5_kinds_20 : decode cX5_kinds 20 = .ok (.istore 4, 2) := by decide +kernel
theorem dX5_kinds_22 : decode cX5_kinds 22 = .ok (.iload 4, 2) := by decide +kernel
theorem dX5_kinds_24 : decode cX5_kinds 24 = .ok (.iconst 4, 1) := by decide +kernel
theorem dX5_kinds_25 : decode cX5_kinds 25 = .ok (.if_icmp .ge 36, 3) := by decide +kernel
theorem dX5_kinds_28 : decode cX5_kinds 28 = .ok (.aload_n 0, 1) := by decide +kernel
theorem dX5_kinds_29 : decode cX5_kinds 29 = .ok (.getfield 7, 3) := by decide +kernel
theorem dX5_kinds_32 : decode cX5_kinds 32 = .ok (.iload_n 1, 1) := by decide +kernel
theorem dX5_kinds_33 : decode cX5_kinds 33 = .ok (.iload 4, 2) := by decide +kernel
theorem dX5_kinds_35 : decode cX5_kinds 35 = .ok (.iastore, 1) := by decide +kernel
theorem dX5_kinds_36 : decode cX5_kinds 36 = .ok (.iload_n 3, 1) := by decide +kernel
theorem dX5_kinds_37 : decode cX5_kinds 37 = .ok (.aload_n 0, 1) := by decide +kernel
theorem dX5_kinds_38 : decode cX5_kinds 38 = .ok (.iconst 0, 1) := by decide +kernel
theorem dX5_kinds_39 : decode cX5_kinds 39 = .ok (.invokevirtual 252, 3) := by decide +kernel
theorem dX5_kinds_42 : decode cX5_kinds 42 = .ok (.ifCond .eq 10, 3) := by decide +kernel
theorem dX5_kinds_45 : decode cX5_kinds 45 = .ok (.iconst 1, 1) := by decide +kernel
theorem dX5_kinds_46 : decode cX5_kinds 46 = .ok (.iload 4, 2) := by decide +kernel
theorem dX5_kinds_48 : decode cX5_kinds 48 = .ok (.ishl, 1) := by decide +kernel
theorem dX5_kinds_49 : decode cX5_kinds 49 = .ok (.goto 4, 3) := by decide +kernel
theorem dX5_kinds_52 : decode cX5_kinds 52 = .ok (.iconst 0, 1) := by decide +kernel
theorem dX5_kinds_53 : decode cX5_kinds 53 = .ok (.ior, 1) := by decide +kernel
theorem dX5_kinds_54 : decode cX5_kinds 54 = .ok (.istore_n 3, 1) := by decide +kernel
theorem dX5_kinds_55 : decode cX5_kinds 55 = .ok (.iinc 4 1, 3) := by decide +kernel
theorem dX5_kinds_58 : decode cX5_kinds 58 = .ok (.goto (-36), 3) := by decide +kernel
theorem dX5_kinds_61 : decode cX5_kinds 61 = .ok (.aload_n 0, 1) := by decide +kernel
theorem dX5_kinds_62 : decode cX5_kinds 62 = .ok (.getfield 7, 3) := by decide +kernel
theorem dX5_kinds_65 : decode cX5_kinds 65 = .ok (.iload_n 1, 1) := by decide +kernel
theorem dX5_kinds_66 : decode cX5_kinds 66 = .ok (.iload_n 2, 1) := by decide +kernel
theorem dX5_kinds_67 : decode cX5_kinds 67 = .ok (.iastore, 1) := by decide +kernel
theorem dX5_kinds_68 : decode cX5_kinds 68 = .ok (.iload_n 3, 1) := by decide +kernel
theorem dX5_kinds_69 : decode cX5_kinds 69 = .ok (.ireturn, 1) := by decide +kernel
theorem dX5_upsOf_0 : decode cX5_upsOf 0 = .ok (.aload_n 0, 1) := by decide +kernel
theorem dX5_upsOf_1 : decode cX5_upsOf 1 = .ok (.getfield 7, 3) := by decide +kernel
theorem dX5_upsOf_4 : decode cX5_upsOf 4 = .ok (.iconst 5, 1) := by decide +kernel
theorem dX5_upsOf_5 : decode cX5_upsOf 5 = .ok (.iload_n 1, 1) := by decide +kernel
theorem dX5_upsOf_6 : decode cX5_upsOf 6 = .ok (.iadd, 1) := by decide +kernel
theorem dX5_upsOf_7 : decode cX5_upsOf 7 = .ok (.iaload, 1) := by decide +kernel
theorem dX5_upsOf_8 : decode cX5_upsOf 8 = .ok (.istore_n 2, 1) := by decide +kernel
theorem dX5_upsOf_9 : decode cX5_upsOf 9 = .ok (.iconst 0, 1) := by decide +kernel
theorem dX5_upsOf_10 : decode cX5_upsOf 10 = .ok (.istore_n 3, 1) := by decide +kernel
theorem dX5_upsOf_11 : decode cX5_upsOf 11 = .ok (.iconst 0, 1) := by decide +kernel
theorem dX5_upsOf_12 : decode cX5_upsOf 12 = .ok (.istore 4, 2) := by decide +kernel
theorem dX5_upsOf_14 : decode cX5_upsOf 14 = .ok (.iload 4, 2) := by decide +kernel
theorem dX5_upsOf_16 : decode cX5_upsOf 16 = .ok (.bipush 16, 2) := by decide +kernel
theorem dX5_upsOf_18 : decode cX5_upsOf 18 = .ok (.if_icmp .ge 39, 3) := by decide +kernel
theorem dX5_upsOf_21 : decode cX5_upsOf 21 = .ok (.aload_n 0, 1) := by decide +kernel
theorem dX5_upsOf_22 : decode cX5_upsOf 22 = .ok (.getfield 7, 3) := by decide +kernel
theorem dX5_upsOf_25 : decode cX5_upsOf 25 = .ok (.iconst 5, 1) := by decide +kernel
theorem dX5_upsOf_26 : decode cX5_upsOf 26 = .ok (.iload_n 1, 1) := by decide +kernel
theorem dX5_upsOf_27 : decode cX5_upsOf 27 = .ok (.iadd, 1) := by decide +kernel
theorem dX5_upsOf_28 : decode cX5_upsOf 28 = .ok (.iload 4, 2) := by decide +kernel
theorem dX5_upsOf_30 : decode cX5_upsOf 30 = .ok (.iastore, 1) := by decide +kernel
theorem dX5_upsOf_31 : decode cX5_upsOf 31 = .ok (.iload_n 3, 1) := by decide +kernel
theorem dX5_upsOf_32 : decode cX5_upsOf 32 = .ok (.aload_n 0, 1) := by decide +kernel
theorem dX5_upsOf_33 : decode cX5_upsOf 33 = .ok (.iload 4, 2) := by decide +kernel
theorem dX5_upsOf_35 : decode cX5_upsOf 35 = .ok (.invokevirtual 252, 3) := by decide +kernel
theorem dX5_upsOf_38 : decode cX5_upsOf 38 = .ok (.ifCond .eq 10, 3) := by decide +kernel
theorem dX5_upsOf_41 : decode cX5_upsOf 41 = .ok (.iconst 1, 1) := by decide +kernel
theorem dX5_upsOf_42 : decode cX5_upsOf 42 = .ok (.iload 4, 2) := by decide +kernel
theorem dX5_upsOf_44 : decode cX5_upsOf 44 = .ok (.ishl, 1) := by decide +kernel
theorem dX5_upsOf_45 : decode cX5_upsOf 45 = .ok (.goto 4, 3) := by decide +kernel
theorem dX5_upsOf_48 : decode cX5_upsOf 48 = .ok (.iconst 0, 1) := by decide +kernel
theorem dX5_upsOf_49 : decode cX5_upsOf 49 = .ok (.ior, 1) := by decide +kernel
theorem dX5_upsOf_50 : decode cX5_upsOf 50 = .ok (.istore_n 3, 1) := by decide +kernel
theorem dX5_upsOf_51 : decode cX5_upsOf 51 = .ok (.iinc 4 1, 3) := by decide +kernel
theorem dX5_upsOf_54 : decode cX5_upsOf 54 = .ok (.goto (-40), 3) := by decide +kernel
theorem dX5_upsOf_57 : decode cX5_upsOf 57 = .ok (.aload_n 0, 1) := by decide +kernel
theorem dX5_upsOf_58 : decode cX5_upsOf 58 = .ok (.getfield 7, 3) := by decide +kernel
theorem dX5_upsOf_61 : decode cX5_upsOf 61 = .ok (.iconst 5, 1) := by decide +kernel
theorem dX5_upsOf_62 : decode cX5_upsOf 62 = .ok (.iload_n 1, 1) := by decide +kernel
theorem dX5_upsOf_63 : decode cX5_upsOf 63 = .ok (.iadd, 1) := by decide +kernel
theorem dX5_upsOf_64 : decode cX5_upsOf 64 = .ok (.iload_n 2, 1) := by decide +kernel
theorem dX5_upsOf_65 : decode cX5_upsOf 65 = .ok (.iastore, 1) := by decide +kernel
theorem dX5_upsOf_66 : decode cX5_upsOf 66 = .ok (.iload_n 3, 1) := by decide +kernel
theorem dX5_upsOf_67 : decode cX5_upsOf 67 = .ok (.ireturn, 1) := by decide +kernel
theorem dX5_ups_0 : decode cX5_ups 0 = .ok (.aload_n 0, 1) := by decide +kernel
theorem dX5_ups_1 : decode cX5_ups 1 = .ok (.iload_n 1, 1) := by decide +kernel
theorem dX5_ups_2 : decode cX5_ups 2 = .ok (.invokevirtual 182, 3) := by decide +kernel
theorem dX5_ups_5 : decode cX5_ups 5 = .ok (.ifCond .eq 11, 3) := by decide +kernel
theorem dX5_ups_8 : decode cX5_ups 8 = .ok (.aload_n 0, 1) := by decide +kernel
theorem dX5_ups_9 : decode cX5_ups 9 = .ok (.iload_n 1, 1) := by decide +kernel
theorem dX5_ups_10 : decode cX5_ups 10 = .ok (.invokevirtual 255, 3) := by decide +kernel
theorem dX5_ups_13 : decode cX5_ups 13 = .ok (.goto 4, 3) := by decide +kernel
theorem dX5_ups_16 : decode cX5_ups 16 = .ok (.iconst (-1), 1) := by decide +kernel
theorem dX5_ups_17 : decode cX5_ups 17 = .ok (.ireturn, 1) := by decide +kernel
theorem dX5_worstAt_0 : decode cX5_worstAt 0 = .ok (.iconst 0, 1) := by decide +kernel
theorem dX5_worstAt_1 : decode cX5_worstAt 1 = .ok (.istore_n 3, 1) := by decide +kernel
theorem dX5_worstAt_2 : decode cX5_worstAt 2 = .ok (.iconst 0, 1) := by decide +kernel
theorem dX5_worstAt_3 : decode cX5_worstAt 3 = .ok (.istore 4, 2) := by decide +kernel
theorem dX5_worstAt_5 : decode cX5_worstAt 5 = .ok (.iload 4, 2) := by decide +kernel
theorem dX5_worstAt_7 : decode cX5_worstAt 7 = .ok (.bipush 16, 2) := by decide +kernel
theorem dX5_worstAt_9 : decode cX5_worstAt 9 = .ok (.if_icmp .ge 98, 3) := by decide +kernel
theorem dX5_worstAt_12 : decode cX5_worstAt 12 = .ok (.iconst 0, 1) := by decide +kernel
theorem dX5_worstAt_13 : decode cX5_worstAt 13 = .ok (.istore 5, 2) := by decide +kernel
theorem dX5_worstAt_15 : decode cX5_worstAt 15 = .ok (.iconst 0, 1) := by decide +kernel
theorem dX5_worstAt_16 : decode cX5_worstAt 16 = .ok (.istore 6, 2) := by decide +kernel
theorem dX5_worstAt_18 : decode cX5_worstAt 18 = .ok (.iload 6, 2) := by decide +kernel
theorem dX5_worstAt_20 : decode cX5_worstAt 20 = .ok (.bipush 16, 2) := by decide +kernel
theorem dX5_worstAt_22 : decode cX5_worstAt 22 = .ok (.if_icmp .ge 66, 3) := by decide +kernel
theorem dX5_worstAt_25 : decode cX5_worstAt 25 = .ok (.iload_n 1, 1) := by decide +kernel
theorem dX5_worstAt_26 : decode cX5_worstAt 26 = .ok (.iload 4, 2) := by decide +kernel
theorem dX5_worstAt_28 : decode cX5_worstAt 28 = .ok (.ishr, 1) := by decide +kernel
theorem dX5_worstAt_29 : decode cX5_worstAt 29 = .ok (.iconst 1, 1) := by decide +kernel
theorem dX5_worstAt_30 : decode cX5_worstAt 30 = .ok (.iand, 1) := by decide +kernel
theorem dX5_worstAt_31 : decode cX5_worstAt 31 = .ok (.iconst 1, 1) := by decide +kernel
theorem dX5_worstAt_32 : decode cX5_worstAt 32 = .ok (.if_icmp .ne 56, 3) := by decide +kernel
theorem dX5_worstAt_35 : decode cX5_worstAt 35 = .ok (.iload 5, 2) := by decide +kernel
theorem dX5_worstAt_37 : decode cX5_worstAt 37 = .ok (.iload_n 1, 1) := by decide +kernel
theorem dX5_worstAt_38 : decode cX5_worstAt 38 = .ok (.iload 6, 2) := by decide +kernel
theorem dX5_worstAt_40 : decode cX5_worstAt 40 = .ok (.ishr, 1) := by decide +kernel
theorem dX5_worstAt_41 : decode cX5_worstAt 41 = .ok (.iconst 1, 1) := by decide +kernel
theorem dX5_worstAt_42 : decode cX5_worstAt 42 = .ok (.iand, 1) := by decide +kernel
theorem dX5_worstAt_43 : decode cX5_worstAt 43 = .ok (.iconst 1, 1) := by decide +kernel
theorem dX5_worstAt_44 : decode cX5_worstAt 44 = .ok (.if_icmp .ne 34, 3) := by decide +kernel
theorem dX5_worstAt_47 : decode cX5_worstAt 47 = .ok (.aload_n 0, 1) := by decide +kernel
theorem dX5_worstAt_48 : decode cX5_worstAt 48 = .ok (.getfield 28, 3) := by decide +kernel
theorem dX5_worstAt_51 : decode cX5_worstAt 51 = .ok (.bipush 105, 2) := by decide +kernel
theorem dX5_worstAt_53 : decode cX5_worstAt 53 = .ok (.iload 4, 2) := by decide +kernel
theorem dX5_worstAt_55 : decode cX5_worstAt 55 = .ok (.imul, 1) := by decide +kernel
theorem dX5_worstAt_56 : decode cX5_worstAt 56 = .ok (.iload_n 2, 1) := by decide +kernel
theorem dX5_worstAt_57 : decode cX5_worstAt 57 = .ok (.iadd, 1) := by decide +kernel
theorem dX5_worstAt_58 : decode cX5_worstAt 58 = .ok (.iaload, 1) := by decide +kernel
theorem dX5_worstAt_59 : decode cX5_worstAt 59 = .ok (.aload_n 0, 1) := by decide +kernel
theorem dX5_worstAt_60 : decode cX5_worstAt 60 = .ok (.getfield 28, 3) := by decide +kernel
theorem dX5_worstAt_63 : decode cX5_worstAt 63 = .ok (.bipush 105, 2) := by decide +kernel
theorem dX5_worstAt_65 : decode cX5_worstAt 65 = .ok (.iload 6, 2) := by decide +kernel
theorem dX5_worstAt_67 : decode cX5_worstAt 67 = .ok (.imul, 1) := by decide +kernel
theorem dX5_worstAt_68 : decode cX5_worstAt 68 = .ok (.iload_n 2, 1) := by decide +kernel
theorem dX5_worstAt_69 : decode cX5_worstAt 69 = .ok (.iadd, 1) := by decide +kernel
theorem dX5_worstAt_70 : decode cX5_worstAt 70 = .ok (.iaload, 1) := by decide +kernel
theorem dX5_worstAt_71 : decode cX5_worstAt 71 = .ok (.if_icmp .ne 7, 3) := by decide +kernel
theorem dX5_worstAt_74 : decode cX5_worstAt 74 = .ok (.iconst 1, 1) := by decide +kernel
theorem dX5_worstAt_75 : decode cX5_worstAt 75 = .ok (.goto 4, 3) := by decide +kernel
theorem dX5_worstAt_78 : decode cX5_worstAt 78 = .ok (.iconst 0, 1) := by decide +kernel
theorem dX5_worstAt_79 : decode cX5_worstAt 79 = .ok (.iadd, 1) := by decide +kernel
theorem dX5_worstAt_80 : decode cX5_worstAt 80 = .ok (.istore 5, 2) := by decide +kernel
theorem dX5_worstAt_82 : decode cX5_worstAt 82 = .ok (.iinc 6 1, 3) := by decide +kernel
theorem dX5_worstAt_85 : decode cX5_worstAt 85 = .ok (.goto (-67), 3) := by decide +kernel
theorem dX5_worstAt_88 : decode cX5_worstAt 88 = .ok (.iload 5, 2) := by decide +kernel
theorem dX5_worstAt_90 : decode cX5_worstAt 90 = .ok (.iload_n 3, 1) := by decide +kernel
theorem dX5_worstAt_91 : decode cX5_worstAt 91 = .ok (.if_icmp .le 8, 3) := by decide +kernel
theorem dX5_worstAt_94 : decode cX5_worstAt 94 = .ok (.iload 5, 2) := by decide +kernel
theorem dX5_worstAt_96 : decode cX5_worstAt 96 = .ok (.goto 4, 3) := by decide +kernel
theorem dX5_worstAt_99 : decode cX5_worstAt 99 = .ok (.iload_n 3, 1) := by decide +kernel
theorem dX5_worstAt_100 : decode cX5_worstAt 100 = .ok (.istore_n 3, 1) := by decide +kernel
theorem dX5_worstAt_101 : decode cX5_worstAt 101 = .ok (.iinc 4 1, 3) := by decide +kernel
theorem dX5_worstAt_104 : decode cX5_worstAt 104 = .ok (.goto (-99), 3) := by decide +kernel
theorem dX5_worstAt_107 : decode cX5_worstAt 107 = .ok (.iload_n 3, 1) := by decide +kernel
theorem dX5_worstAt_108 : decode cX5_worstAt 108 = .ok (.ireturn, 1) := by decide +kernel
theorem dX5_ask_0 : decode cX5_ask 0 = .ok (.aload_n 0, 1) := by decide +kernel
theorem dX5_ask_1 : decode cX5_ask 1 = .ok (.iload_n 1, 1) := by decide +kernel
theorem dX5_ask_2 : decode cX5_ask 2 = .ok (.invokevirtual 182, 3) := by decide +kernel
theorem dX5_ask_5 : decode cX5_ask 5 = .ok (.ifCond .eq 13, 3) := by decide +kernel
theorem dX5_ask_8 : decode cX5_ask 8 = .ok (.iload_n 2, 1) := by decide +kernel
theorem dX5_ask_9 : decode cX5_ask 9 = .ok (.i2l, 1) := by decide +kernel
theorem dX5_ask_10 : decode cX5_ask 10 = .ok (.lconst 0, 1) := by decide +kernel
theorem dX5_ask_11 : decode cX5_ask 11 = .ok (.lconst 1, 1) := by decide +kernel
theorem dX5_ask_12 : decode cX5_ask 12 = .ok (.invokestatic 46, 3) := by decide +kernel
theorem dX5_ask_15 : decode cX5_ask 15 = .ok (.ifCond .ne 5, 3) := by decide +kernel
theorem dX5_ask_18 : decode cX5_ask 18 = .ok (.iconst (-1), 1) := by decide +kernel
theorem dX5_ask_19 : decode cX5_ask 19 = .ok (.ireturn, 1) := by decide +kernel
theorem dX5_ask_20 : decode cX5_ask 20 = .ok (.aload_n 0, 1) := by decide +kernel
theorem dX5_ask_21 : decode cX5_ask 21 = .ok (.iload_n 1, 1) := by decide +kernel
theorem dX5_ask_22 : decode cX5_ask 22 = .ok (.invokevirtual 255, 3) := by decide +kernel
theorem dX5_ask_25 : decode cX5_ask 25 = .ok (.istore_n 3, 1) := by decide +kernel
theorem dX5_ask_26 : decode cX5_ask 26 = .ok (.iload_n 3, 1) := by decide +kernel
theorem dX5_ask_27 : decode cX5_ask 27 = .ok (.invokestatic 231, 3) := by decide +kernel
theorem dX5_ask_30 : decode cX5_ask 30 = .ok (.istore 4, 2) := by decide +kernel
theorem dX5_ask_32 : decode cX5_ask 32 = .ok (.bipush (-4), 2) := by decide +kernel
theorem dX5_ask_34 : decode cX5_ask 34 = .ok (.istore 5, 2) := by decide +kernel
theorem dX5_ask_36 : decode cX5_ask 36 = .ok (.iconst 0, 1) := by decide +kernel
theorem dX5_ask_37 : decode cX5_ask 37 = .ok (.istore 6, 2) := by decide +kernel
theorem dX5_ask_39 : decode cX5_ask 39 = .ok (.iload 6, 2) := by decide +kernel
theorem dX5_ask_41 : decode cX5_ask 41 = .ok (.bipush 20, 2) := by decide +kernel
theorem dX5_ask_43 : decode cX5_ask 43 = .ok (.if_icmp .gt 79, 3) := by decide +kernel
theorem dX5_ask_46 : decode cX5_ask 46 = .ok (.iconst 0, 1) := by decide +kernel
theorem dX5_ask_47 : decode cX5_ask 47 = .ok (.istore 7, 2) := by decide +kernel
theorem dX5_ask_49 : decode cX5_ask 49 = .ok (.iload 7, 2) := by decide +kernel
theorem dX5_ask_51 : decode cX5_ask 51 = .ok (.aload_n 0, 1) := by decide +kernel
theorem dX5_ask_52 : decode cX5_ask 52 = .ok (.getfield 131, 3) := by decide +kernel
theorem dX5_ask_55 : decode cX5_ask 55 = .ok (.if_icmp .ge 61, 3) := by decide +kernel
theorem dX5_ask_58 : decode cX5_ask 58 = .ok (.aload_n 0, 1) := by decide +kernel
theorem dX5_ask_59 : decode cX5_ask 59 = .ok (.iload_n 3, 1) := by decide +kernel
theorem dX5_ask_60 : decode cX5_ask 60 = .ok (.iconst 5, 1) := by decide +kernel
theorem dX5_ask_61 : decode cX5_ask 61 = .ok (.iload 6, 2) := by decide +kernel
theorem dX5_ask_63 : decode cX5_ask 63 = .ok (.imul, 1) := by decide +kernel
theorem dX5_ask_64 : decode cX5_ask 64 = .ok (.iload 7, 2) := by decide +kernel
theorem dX5_ask_66 : decode cX5_ask 66 = .ok (.iadd, 1) := by decide +kernel
theorem dX5_ask_67 : decode cX5_ask 67 = .ok (.invokevirtual 258, 3) := by decide +kernel
theorem dX5_ask_70 : decode cX5_ask 70 = .ok (.istore 8, 2) := by decide +kernel
theorem dX5_ask_72 : decode cX5_ask 72 = .ok (.iload 8, 2) := by decide +kernel
theorem dX5_ask_74 : decode cX5_ask 74 = .ok (.iload 4, 2) := by decide +kernel
theorem dX5_ask_76 : decode cX5_ask 76 = .ok (.if_icmp .ge 14, 3) := by decide +kernel
theorem dX5_ask_79 : decode cX5_ask 79 = .ok (.bipush 10, 2) := by decide +kernel
theorem dX5_ask_81 : decode cX5_ask 81 = .ok (.iload 6, 2) := by decide +kernel
theorem dX5_ask_83 : decode cX5_ask 83 = .ok (.imul, 1) := by decide +kernel
theorem dX5_ask_84 : decode cX5_ask 84 = .ok (.iload 7, 2) := by decide +kernel
theorem dX5_ask_86 : decode cX5_ask 86 = .ok (.iadd, 1) := by decide +kernel
theorem dX5_ask_87 : decode cX5_ask 87 = .ok (.goto 5, 3) := by decide +kernel
theorem dX5_ask_90 : decode cX5_ask 90 = .ok (.iload 5, 2) := by decide +kernel
theorem dX5_ask_92 : decode cX5_ask 92 = .ok (.istore 5, 2) := by decide +kernel
theorem dX5_ask_94 : decode cX5_ask 94 = .ok (.iload 8, 2) := by decide +kernel
theorem dX5_ask_96 : decode cX5_ask 96 = .ok (.iload 4, 2) := by decide +kernel
theorem dX5_ask_98 : decode cX5_ask 98 = .ok (.if_icmp .ge 8, 3) := by decide +kernel
theorem dX5_ask_101 : decode cX5_ask 101 = .ok (.iload 8, 2) := by decide +kernel
theorem dX5_ask_103 : decode cX5_ask 103 = .ok (.goto 5, 3) := by decide +kernel
theorem dX5_ask_106 : decode cX5_ask 106 = .ok (.iload 4, 2) := by decide +kernel
theorem dX5_ask_108 : decode cX5_ask 108 = .ok (.istore 4, 2) := by decide +kernel
theorem dX5_ask_110 : decode cX5_ask 110 = .ok (.iinc 7 1, 3) := by decide +kernel
theorem dX5_ask_113 : decode cX5_ask 113 = .ok (.goto (-64), 3) := by decide +kernel
theorem dX5_ask_116 : decode cX5_ask 116 = .ok (.iinc 6 1, 3) := by decide +kernel
theorem dX5_ask_119 : decode cX5_ask 119 = .ok (.goto (-80), 3) := by decide +kernel
theorem dX5_ask_122 : decode cX5_ask 122 = .ok (.iload 5, 2) := by decide +kernel
theorem dX5_ask_124 : decode cX5_ask 124 = .ok (.bipush (-4), 2) := by decide +kernel
theorem dX5_ask_126 : decode cX5_ask 126 = .ok (.if_icmp .eq 7, 3) := by decide +kernel
theorem dX5_ask_129 : decode cX5_ask 129 = .ok (.iload_n 2, 1) := by decide +kernel
theorem dX5_ask_130 : decode cX5_ask 130 = .ok (.ifCond .ne 8, 3) := by decide +kernel
theorem dX5_ask_133 : decode cX5_ask 133 = .ok (.iload 5, 2) := by decide +kernel
theorem dX5_ask_135 : decode cX5_ask 135 = .ok (.goto 5, 3) := by decide +kernel
theorem dX5_ask_138 : decode cX5_ask 138 = .ok (.iload 4, 2) := by decide +kernel
theorem dX5_ask_140 : decode cX5_ask 140 = .ok (.ireturn, 1) := by decide +kernel
theorem dX5_drift_0 : decode cX5_drift 0 = .ok (.iload_n 2, 1) := by decide +kernel
theorem dX5_drift_1 : decode cX5_drift 1 = .ok (.i2l, 1) := by decide +kernel
theorem dX5_drift_2 : decode cX5_drift 2 = .ok (.lconst 1, 1) := by decide +kernel
theorem dX5_drift_3 : decode cX5_drift 3 = .ok (.ldc2_w 226, 3) := by decide +kernel
theorem dX5_drift_6 : decode cX5_drift 6 = .ok (.invokestatic 46, 3) := by decide +kernel
theorem dX5_drift_9 : decode cX5_drift 9 = .ok (.ifCond .eq 13, 3) := by decide +kernel
theorem dX5_drift_12 : decode cX5_drift 12 = .ok (.iload_n 3, 1) := by decide +kernel
theorem dX5_drift_13 : decode cX5_drift 13 = .ok (.i2l, 1) := by decide +kernel
theorem dX5_drift_14 : decode cX5_drift 14 = .ok (.lconst 0, 1) := by decide +kernel
theorem dX5_drift_15 : decode cX5_drift 15 = .ok (.lconst 1, 1) := by decide +kernel
theorem dX5_drift_16 : decode cX5_drift 16 = .ok (.invokestatic 46, 3) := by decide +kernel
theorem dX5_drift_19 : decode cX5_drift 19 = .ok (.ifCond .ne 5, 3) := by decide +kernel
theorem dX5_drift_22 : decode cX5_drift 22 = .ok (.iconst (-1), 1) := by decide +kernel
theorem dX5_drift_23 : decode cX5_drift 23 = .ok (.ireturn, 1) := by decide +kernel
theorem dX5_drift_24 : decode cX5_drift 24 = .ok (.aload_n 0, 1) := by decide +kernel
theorem dX5_drift_25 : decode cX5_drift 25 = .ok (.getfield 131, 3) := by decide +kernel
theorem dX5_drift_28 : decode cX5_drift 28 = .ok (.ifCond .ne 6, 3) := by decide +kernel
theorem dX5_drift_31 : decode cX5_drift 31 = .ok (.bipush (-2), 2) := by decide +kernel
theorem dX5_drift_33 : decode cX5_drift 33 = .ok (.ireturn, 1) := by decide +kernel
theorem dX5_drift_34 : decode cX5_drift 34 = .ok (.aload_n 0, 1) := by decide +kernel
theorem dX5_drift_35 : decode cX5_drift 35 = .ok (.iconst 0, 1) := by decide +kernel
theorem dX5_drift_36 : decode cX5_drift 36 = .ok (.sipush 220, 3) := by decide +kernel
theorem dX5_drift_39 : decode cX5_drift 39 = .ok (.invokevirtual 216, 3) := by decide +kernel
theorem dX5_drift_42 : decode cX5_drift 42 = .ok (.aload_n 0, 1) := by decide +kernel
theorem dX5_drift_43 : decode cX5_drift 43 = .ok (.iconst 0, 1) := by decide +kernel
theorem dX5_drift_44 : decode cX5_drift 44 = .ok (.putfield 173, 3) := by decide +kernel
theorem dX5_drift_47 : decode cX5_drift 47 = .ok (.iload_n 1, 1) := by decide +kernel
theorem dX5_drift_48 : decode cX5_drift 48 = .ok (.istore 4, 2) := by decide +kernel
theorem dX5_drift_50 : decode cX5_drift 50 = .ok (.iconst 0, 1) := by decide +kernel
theorem dX5_drift_51 : decode cX5_drift 51 = .ok (.istore 5, 2) := by decide +kernel
theorem dX5_drift_53 : decode cX5_drift 53 = .ok (.iload 5, 2) := by decide +kernel
theorem dX5_drift_55 : decode cX5_drift 55 = .ok (.iload_n 2, 1) := by decide +kernel
theorem dX5_drift_56 : decode cX5_drift 56 = .ok (.if_icmp .ge 63, 3) := by decide +kernel
theorem dX5_drift_59 : decode cX5_drift 59 = .ok (.iload 4, 2) := by decide +kernel
theorem dX5_drift_61 : decode cX5_drift 61 = .ok (.ldc_w 261, 3) := by decide +kernel
theorem dX5_drift_64 : decode cX5_drift 64 = .ok (.imul, 1) := by decide +kernel
theorem dX5_drift_65 : decode cX5_drift 65 = .ok (.sipush 12345, 3) := by decide +kernel
theorem dX5_drift_68 : decode cX5_drift 68 = .ok (.iadd, 1) := by decide +kernel
theorem dX5_drift_69 : decode cX5_drift 69 = .ok (.istore 4, 2) := by decide +kernel
theorem dX5_drift_71 : decode cX5_drift 71 = .ok (.iload 4, 2) := by decide +kernel
theorem dX5_drift_73 : decode cX5_drift 73 = .ok (.bipush 16, 2) := by decide +kernel
theorem dX5_drift_75 : decode cX5_drift 75 = .ok (.ishr, 1) := by decide +kernel
theorem dX5_drift_76 : decode cX5_drift 76 = .ok (.sipush 32767, 3) := by decide +kernel
theorem dX5_drift_79 : decode cX5_drift 79 = .ok (.iand, 1) := by decide +kernel
theorem dX5_drift_80 : decode cX5_drift 80 = .ok (.istore 6, 2) := by decide +kernel
theorem dX5_drift_82 : decode cX5_drift 82 = .ok (.aload_n 0, 1) := by decide +kernel
theorem dX5_drift_83 : decode cX5_drift 83 = .ok (.getfield 7, 3) := by decide +kernel
theorem dX5_drift_86 : decode cX5_drift 86 = .ok (.sipush 225, 3) := by decide +kernel
theorem dX5_drift_89 : decode cX5_drift 89 = .ok (.iload 6, 2) := by decide +kernel
theorem dX5_drift_91 : decode cX5_drift 91 = .ok (.aload_n 0, 1) := by decide +kernel
theorem dX5_drift_92 : decode cX5_drift 92 = .ok (.getfield 131, 3) := by decide +kernel
theorem dX5_drift_95 : decode cX5_drift 95 = .ok (.irem, 1) := by decide +kernel
theorem dX5_drift_96 : decode cX5_drift 96 = .ok (.iadd, 1) := by decide +kernel
theorem dX5_drift_97 : decode cX5_drift 97 = .ok (.iload 6, 2) := by decide +kernel
theorem dX5_drift_99 : decode cX5_drift 99 = .ok (.bipush 16, 2) := by decide +kernel
theorem dX5_drift_101 : decode cX5_drift 101 = .ok (.idiv, 1) := by decide +kernel
theorem dX5_drift_102 : decode cX5_drift 102 = .ok (.bipush 16, 2) := by decide +kernel
theorem dX5_drift_104 : decode cX5_drift 104 = .ok (.irem, 1) := by decide +kernel
theorem dX5_drift_105 : decode cX5_drift 105 = .ok (.iastore, 1) := by decide +kernel
theorem dX5_drift_106 : decode cX5_drift 106 = .ok (.aload_n 0, 1) := by decide +kernel
theorem dX5_drift_107 : decode cX5_drift 107 = .ok (.sipush 220, 3) := by decide +kernel
theorem dX5_drift_110 : decode cX5_drift 110 = .ok (.invokevirtual 213, 3) := by decide +kernel
theorem dX5_drift_113 : decode cX5_drift 113 = .ok (.iinc 5 1, 3) := by decide +kernel
theorem dX5_drift_116 : decode cX5_drift 116 = .ok (.goto (-63), 3) := by decide +kernel
theorem dX5_drift_119 : decode cX5_drift 119 = .ok (.iload_n 3, 1) := by decide +kernel
theorem dX5_drift_120 : decode cX5_drift 120 = .ok (.ifCond .ne 10, 3) := by decide +kernel
theorem dX5_drift_123 : decode cX5_drift 123 = .ok (.aload_n 0, 1) := by decide +kernel
theorem dX5_drift_124 : decode cX5_drift 124 = .ok (.getfield 173, 3) := by decide +kernel
theorem dX5_drift_127 : decode cX5_drift 127 = .ok (.goto 10, 3) := by decide +kernel
theorem dX5_drift_130 : decode cX5_drift 130 = .ok (.aload_n 0, 1) := by decide +kernel
theorem dX5_drift_131 : decode cX5_drift 131 = .ok (.sipush 220, 3) := by decide +kernel
theorem dX5_drift_134 : decode cX5_drift 134 = .ok (.invokevirtual 179, 3) := by decide +kernel
theorem dX5_drift_137 : decode cX5_drift 137 = .ok (.ireturn, 1) := by decide +kernel
theorem dX5_keep_0 : decode cX5_keep 0 = .ok (.iload_n 1, 1) := by decide +kernel
theorem dX5_keep_1 : decode cX5_keep 1 = .ok (.i2l, 1) := by decide +kernel
theorem dX5_keep_2 : decode cX5_keep 2 = .ok (.lconst 0, 1) := by decide +kernel
theorem dX5_keep_3 : decode cX5_keep 3 = .ok (.lconst 1, 1) := by decide +kernel
theorem dX5_keep_4 : decode cX5_keep 4 = .ok (.invokestatic 46, 3) := by decide +kernel
theorem dX5_keep_7 : decode cX5_keep 7 = .ok (.ifCond .ne 5, 3) := by decide +kernel
theorem dX5_keep_10 : decode cX5_keep 10 = .ok (.iconst (-1), 1) := by decide +kernel
theorem dX5_keep_11 : decode cX5_keep 11 = .ok (.ireturn, 1) := by decide +kernel
theorem dX5_keep_12 : decode cX5_keep 12 = .ok (.aload_n 0, 1) := by decide +kernel
theorem dX5_keep_13 : decode cX5_keep 13 = .ok (.iconst 0, 1) := by decide +kernel
theorem dX5_keep_14 : decode cX5_keep 14 = .ok (.bipush 55, 2) := by decide +kernel
theorem dX5_keep_16 : decode cX5_keep 16 = .ok (.iload_n 1, 1) := by decide +kernel
theorem dX5_keep_17 : decode cX5_keep 17 = .ok (.iconst 1, 1) := by decide +kernel
theorem dX5_keep_18 : decode cX5_keep 18 = .ok (.iadd, 1) := by decide +kernel
theorem dX5_keep_19 : decode cX5_keep 19 = .ok (.imul, 1) := by decide +kernel
theorem dX5_keep_20 : decode cX5_keep 20 = .ok (.invokevirtual 216, 3) := by decide +kernel
theorem dX5_keep_23 : decode cX5_keep 23 = .ok (.aload_n 0, 1) := by decide +kernel
theorem dX5_keep_24 : decode cX5_keep 24 = .ok (.getfield 31, 3) := by decide +kernel
theorem dX5_keep_27 : decode cX5_keep 27 = .ok (.iload_n 1, 1) := by decide +kernel
theorem dX5_keep_28 : decode cX5_keep 28 = .ok (.baload, 1) := by decide +kernel
theorem dX5_keep_29 : decode cX5_keep 29 = .ok (.ifCond .eq 7, 3) := by decide +kernel
theorem dX5_keep_32 : decode cX5_keep 32 = .ok (.iconst 1, 1) := by decide +kernel
theorem dX5_keep_33 : decode cX5_keep 33 = .ok (.goto 4, 3) := by decide +kernel
theorem dX5_keep_36 : decode cX5_keep 36 = .ok (.iconst 0, 1) := by decide +kernel
theorem dX5_keep_37 : decode cX5_keep 37 = .ok (.istore_n 2, 1) := by decide +kernel
theorem dX5_keep_38 : decode cX5_keep 38 = .ok (.aload_n 0, 1) := by decide +kernel
theorem dX5_keep_39 : decode cX5_keep 39 = .ok (.getfield 31, 3) := by decide +kernel
theorem dX5_keep_42 : decode cX5_keep 42 = .ok (.iload_n 1, 1) := by decide +kernel
theorem dX5_keep_43 : decode cX5_keep 43 = .ok (.iconst 1, 1) := by decide +kernel
theorem dX5_keep_44 : decode cX5_keep 44 = .ok (.bastore, 1) := by decide +kernel
theorem dX5_keep_45 : decode cX5_keep 45 = .ok (.iload_n 2, 1) := by decide +kernel
theorem dX5_keep_46 : decode cX5_keep 46 = .ok (.ireturn, 1) := by decide +kernel
theorem dX5_back_0 : decode cX5_back 0 = .ok (.iload_n 1, 1) := by decide +kernel
theorem dX5_back_1 : decode cX5_back 1 = .ok (.i2l, 1) := by decide +kernel
theorem dX5_back_2 : decode cX5_back 2 = .ok (.lconst 0, 1) := by decide +kernel
theorem dX5_back_3 : decode cX5_back 3 = .ok (.lconst 1, 1) := by decide +kernel
theorem dX5_back_4 : decode cX5_back 4 = .ok (.invokestatic 46, 3) := by decide +kernel
theorem dX5_back_7 : decode cX5_back 7 = .ok (.ifCond .ne 5, 3) := by decide +kernel
theorem dX5_back_10 : decode cX5_back 10 = .ok (.iconst (-1), 1) := by decide +kernel
theorem dX5_back_11 : decode cX5_back 11 = .ok (.ireturn, 1) := by decide +kernel
theorem dX5_back_12 : decode cX5_back 12 = .ok (.aload_n 0, 1) := by decide +kernel
theorem dX5_back_13 : decode cX5_back 13 = .ok (.getfield 31, 3) := by decide +kernel
theorem dX5_back_16 : decode cX5_back 16 = .ok (.iload_n 1, 1) := by decide +kernel
theorem dX5_back_17 : decode cX5_back 17 = .ok (.baload, 1) := by decide +kernel
theorem dX5_back_18 : decode cX5_back 18 = .ok (.ifCond .ne 6, 3) := by decide +kernel
theorem dX5_back_21 : decode cX5_back 21 = .ok (.bipush (-2), 2) := by decide +kernel
theorem dX5_back_23 : decode cX5_back 23 = .ok (.ireturn, 1) := by decide +kernel
theorem dX5_back_24 : decode cX5_back 24 = .ok (.aload_n 0, 1) := by decide +kernel
theorem dX5_back_25 : decode cX5_back 25 = .ok (.bipush 55, 2) := by decide +kernel
theorem dX5_back_27 : decode cX5_back 27 = .ok (.iload_n 1, 1) := by decide +kernel
theorem dX5_back_28 : decode cX5_back 28 = .ok (.iconst 1, 1) := by decide +kernel
theorem dX5_back_29 : decode cX5_back 29 = .ok (.iadd, 1) := by decide +kernel
theorem dX5_back_30 : decode cX5_back 30 = .ok (.imul, 1) := by decide +kernel
theorem dX5_back_31 : decode cX5_back 31 = .ok (.iconst 0, 1) := by decide +kernel
theorem dX5_back_32 : decode cX5_back 32 = .ok (.invokevirtual 216, 3) := by decide +kernel
theorem dX5_back_35 : decode cX5_back 35 = .ok (.aload_n 0, 1) := by decide +kernel
theorem dX5_back_36 : decode cX5_back 36 = .ok (.getfield 7, 3) := by decide +kernel
theorem dX5_back_39 : decode cX5_back 39 = .ok (.bipush 53, 2) := by decide +kernel
theorem dX5_back_41 : decode cX5_back 41 = .ok (.iaload, 1) := by decide +kernel
theorem dX5_back_42 : decode cX5_back 42 = .ok (.ireturn, 1) := by decide +kernel
theorem dX5_sheet_0 : decode cX5_sheet 0 = .ok (.iload_n 1, 1) := by decide +kernel
theorem dX5_sheet_1 : decode cX5_sheet 1 = .ok (.i2l, 1) := by decide +kernel
theorem dX5_sheet_2 : decode cX5_sheet 2 = .ok (.lconst 0, 1) := by decide +kernel
theorem dX5_sheet_3 : decode cX5_sheet 3 = .ok (.ldc2_w 91, 3) := by decide +kernel
theorem dX5_sheet_6 : decode cX5_sheet 6 = .ok (.invokestatic 46, 3) := by decide +kernel
theorem dX5_sheet_9 : decode cX5_sheet 9 = .ok (.ifCond .eq 21, 3) := by decide +kernel
theorem dX5_sheet_12 : decode cX5_sheet 12 = .ok (.iload_n 2, 1) := by decide +kernel
theorem dX5_sheet_13 : decode cX5_sheet 13 = .ok (.i2l, 1) := by decide +kernel
theorem dX5_sheet_14 : decode cX5_sheet 14 = .ok (.lconst 0, 1) := by decide +kernel
theorem dX5_sheet_15 : decode cX5_sheet 15 = .ok (.ldc2_w 262, 3) := by decide +kernel
theorem dX5_sheet_18 : decode cX5_sheet 18 = .ok (.invokestatic 46, 3) := by decide +kernel
theorem dX5_sheet_21 : decode cX5_sheet 21 = .ok (.ifCond .eq 9, 3) := by decide +kernel
theorem dX5_sheet_24 : decode cX5_sheet 24 = .ok (.iload_n 3, 1) := by decide +kernel
theorem dX5_sheet_25 : decode cX5_sheet 25 = .ok (.bipush 40, 2) := by decide +kernel
theorem dX5_sheet_27 : decode cX5_sheet 27 = .ok (.if_icmp .le 5, 3) := by decide +kernel
theorem dX5_sheet_30 : decode cX5_sheet 30 = .ok (.iconst (-1), 1) := by decide +kernel
theorem dX5_sheet_31 : decode cX5_sheet 31 = .ok (.ireturn, 1) := by decide +kernel
theorem dX5_sheet_32 : decode cX5_sheet 32 = .ok (.iload_n 3, 1) := by decide +kernel
theorem dX5_sheet_33 : decode cX5_sheet 33 = .ok (.ifCond .ge 6, 3) := by decide +kernel
theorem dX5_sheet_36 : decode cX5_sheet 36 = .ok (.bipush (-14), 2) := by decide +kernel
theorem dX5_sheet_38 : decode cX5_sheet 38 = .ok (.ireturn, 1) := by decide +kernel
theorem dX5_sheet_39 : decode cX5_sheet 39 = .ok (.aload_n 0, 1) := by decide +kernel
theorem dX5_sheet_40 : decode cX5_sheet 40 = .ok (.getfield 35, 3) := by decide +kernel
theorem dX5_sheet_43 : decode cX5_sheet 43 = .ok (.iload_n 1, 1) := by decide +kernel
theorem dX5_sheet_44 : decode cX5_sheet 44 = .ok (.iload_n 2, 1) := by decide +kernel
theorem dX5_sheet_45 : decode cX5_sheet 45 = .ok (.iastore, 1) := by decide +kernel
theorem dX5_sheet_46 : decode cX5_sheet 46 = .ok (.aload_n 0, 1) := by decide +kernel
theorem dX5_sheet_47 : decode cX5_sheet 47 = .ok (.getfield 38, 3) := by decide +kernel
theorem dX5_sheet_50 : decode cX5_sheet 50 = .ok (.iload_n 1, 1) := by decide +kernel
theorem dX5_sheet_51 : decode cX5_sheet 51 = .ok (.iload_n 3, 1) := by decide +kernel
theorem dX5_sheet_52 : decode cX5_sheet 52 = .ok (.iastore, 1) := by decide +kernel
theorem dX5_sheet_53 : decode cX5_sheet 53 = .ok (.iconst 0, 1) := by decide +kernel
theorem dX5_sheet_54 : decode cX5_sheet 54 = .ok (.istore 4, 2) := by decide +kernel
theorem dX5_sheet_56 : decode cX5_sheet 56 = .ok (.iload 4, 2) := by decide +kernel
theorem dX5_sheet_58 : decode cX5_sheet 58 = .ok (.bipush 40, 2) := by decide +kernel
theorem dX5_sheet_60 : decode cX5_sheet 60 = .ok (.if_icmp .ge 22, 3) := by decide +kernel
theorem dX5_sheet_63 : decode cX5_sheet 63 = .ok (.aload_n 0, 1) := by decide +kernel
theorem dX5_sheet_64 : decode cX5_sheet 64 = .ok (.getfield 41, 3) := by decide +kernel
theorem dX5_sheet_67 : decode cX5_sheet 67 = .ok (.bipush 40, 2) := by decide +kernel
theorem dX5_sheet_69 : decode cX5_sheet 69 = .ok (.iload_n 1, 1) := by decide +kernel
theorem dX5_sheet_70 : decode cX5_sheet 70 = .ok (.imul, 1) := by decide +kernel
theorem dX5_sheet_71 : decode cX5_sheet 71 = .ok (.iload 4, 2) := by decide +kernel
theorem dX5_sheet_73 : decode cX5_sheet 73 = .ok (.iadd, 1) := by decide +kernel
theorem dX5_sheet_74 : decode cX5_sheet 74 = .ok (.iconst 0, 1) := by decide +kernel
theorem dX5_sheet_75 : decode cX5_sheet 75 = .ok (.iastore, 1) := by decide +kernel
theorem dX5_sheet_76 : decode cX5_sheet 76 = .ok (.iinc 4 1, 3) := by decide +kernel
theorem dX5_sheet_79 : decode cX5_sheet 79 = .ok (.goto (-23), 3) := by decide +kernel
theorem dX5_sheet_82 : decode cX5_sheet 82 = .ok (.iconst 1, 1) := by decide +kernel
theorem dX5_sheet_83 : decode cX5_sheet 83 = .ok (.ireturn, 1) := by decide +kernel
theorem dX5_lay_0 : decode cX5_lay 0 = .ok (.iload_n 1, 1) := by decide +kernel
theorem dX5_lay_1 : decode cX5_lay 1 = .ok (.i2l, 1) := by decide +kernel
theorem dX5_lay_2 : decode cX5_lay 2 = .ok (.lconst 0, 1) := by decide +kernel
theorem dX5_lay_3 : decode cX5_lay 3 = .ok (.ldc2_w 91, 3) := by decide +kernel
theorem dX5_lay_6 : decode cX5_lay 6 = .ok (.invokestatic 46, 3) := by decide +kernel
theorem dX5_lay_9 : decode cX5_lay 9 = .ok (.ifCond .ne 5, 3) := by decide +kernel
theorem dX5_lay_12 : decode cX5_lay 12 = .ok (.iconst (-1), 1) := by decide +kernel
theorem dX5_lay_13 : decode cX5_lay 13 = .ok (.ireturn, 1) := by decide +kernel
theorem dX5_lay_14 : decode cX5_lay 14 = .ok (.aload_n 0, 1) := by decide +kernel
theorem dX5_lay_15 : decode cX5_lay 15 = .ok (.getfield 35, 3) := by decide +kernel
theorem dX5_lay_18 : decode cX5_lay 18 = .ok (.iload_n 1, 1) := by decide +kernel
theorem dX5_lay_19 : decode cX5_lay 19 = .ok (.iaload, 1) := by decide +kernel
theorem dX5_lay_20 : decode cX5_lay 20 = .ok (.bipush (-4), 2) := by decide +kernel
theorem dX5_lay_22 : decode cX5_lay 22 = .ok (.if_icmp .ne 6, 3) := by decide +kernel
theorem dX5_lay_25 : decode cX5_lay 25 = .ok (.bipush (-11), 2) := by decide +kernel
theorem dX5_lay_27 : decode cX5_lay 27 = .ok (.ireturn, 1) := by decide +kernel
theorem dX5_lay_28 : decode cX5_lay 28 = .ok (.iload_n 2, 1) := by decide +kernel
theorem dX5_lay_29 : decode cX5_lay 29 = .ok (.i2l, 1) := by decide +kernel
theorem dX5_lay_30 : decode cX5_lay 30 = .ok (.lconst 0, 1) := by decide +kernel
theorem dX5_lay_31 : decode cX5_lay 31 = .ok (.aload_n 0, 1) := by decide +kernel
theorem dX5_lay_32 : decode cX5_lay 32 = .ok (.getfield 38, 3) := by decide +kernel
theorem dX5_lay_35 : decode cX5_lay 35 = .ok (.iload_n 1, 1) := by decide +kernel
theorem dX5_lay_36 : decode cX5_lay 36 = .ok (.iaload, 1) := by decide +kernel
theorem dX5_lay_37 : decode cX5_lay 37 = .ok (.iconst 1, 1) := by decide +kernel
theorem dX5_lay_38 : decode cX5_lay 38 = .ok (.isub, 1) := by decide +kernel
theorem dX5_lay_39 : decode cX5_lay 39 = .ok (.i2l, 1) := by decide +kernel
theorem dX5_lay_40 : decode cX5_lay 40 = .ok (.invokestatic 46, 3) := by decide +kernel
theorem dX5_lay_43 : decode cX5_lay 43 = .ok (.ifCond .ne 6, 3) := by decide +kernel
theorem dX5_lay_46 : decode cX5_lay 46 = .ok (.bipush (-12), 2) := by decide +kernel
theorem dX5_lay_48 : decode cX5_lay 48 = .ok (.ireturn, 1) := by decide +kernel
theorem dX5_lay_49 : decode cX5_lay 49 = .ok (.aload_n 0, 1) := by decide +kernel
theorem dX5_lay_50 : decode cX5_lay 50 = .ok (.getfield 41, 3) := by decide +kernel
theorem dX5_lay_53 : decode cX5_lay 53 = .ok (.bipush 40, 2) := by decide +kernel
theorem dX5_lay_55 : decode cX5_lay 55 = .ok (.iload_n 1, 1) := by decide +kernel
theorem dX5_lay_56 : decode cX5_lay 56 = .ok (.imul, 1) := by decide +kernel
theorem dX5_lay_57 : decode cX5_lay 57 = .ok (.iload_n 2, 1) := by decide +kernel
theorem dX5_lay_58 : decode cX5_lay 58 = .ok (.iadd, 1) := by decide +kernel
theorem dX5_lay_59 : decode cX5_lay 59 = .ok (.aload_n 0, 1) := by decide +kernel
theorem dX5_lay_60 : decode cX5_lay 60 = .ok (.getfield 35, 3) := by decide +kernel
theorem dX5_lay_63 : decode cX5_lay 63 = .ok (.iload_n 1, 1) := by decide +kernel
theorem dX5_lay_64 : decode cX5_lay 64 = .ok (.iaload, 1) := by decide +kernel
theorem dX5_lay_65 : decode cX5_lay 65 = .ok (.ifCond .ne 13, 3) := by decide +kernel
theorem dX5_lay_68 : decode cX5_lay 68 = .ok (.iload_n 3, 1) := by decide +kernel
theorem dX5_lay_69 : decode cX5_lay 69 = .ok (.bipush 24, 2) := by decide +kernel
theorem dX5_lay_71 : decode cX5_lay 71 = .ok (.ishl, 1) := by decide +kernel
theorem dX5_lay_72 : decode cX5_lay 72 = .ok (.bipush 24, 2) := by decide +kernel
theorem dX5_lay_74 : decode cX5_lay 74 = .ok (.ishr, 1) := by decide +kernel
theorem dX5_lay_75 : decode cX5_lay 75 = .ok (.goto 24, 3) := by decide +kernel
theorem dX5_lay_78 : decode cX5_lay 78 = .ok (.aload_n 0, 1) := by decide +kernel
theorem dX5_lay_79 : decode cX5_lay 79 = .ok (.getfield 35, 3) := by decide +kernel
theorem dX5_lay_82 : decode cX5_lay 82 = .ok (.iload_n 1, 1) := by decide +kernel
theorem dX5_lay_83 : decode cX5_lay 83 = .ok (.iaload, 1) := by decide +kernel
theorem dX5_lay_84 : decode cX5_lay 84 = .ok (.iconst 1, 1) := by decide +kernel
theorem dX5_lay_85 : decode cX5_lay 85 = .ok (.if_icmp .ne 13, 3) := by decide +kernel
theorem dX5_lay_88 : decode cX5_lay 88 = .ok (.iload_n 3, 1) := by decide +kernel
theorem dX5_lay_89 : decode cX5_lay 89 = .ok (.bipush 16, 2) := by decide +kernel
theorem dX5_lay_91 : decode cX5_lay 91 = .ok (.ishl, 1) := by decide +kernel
theorem dX5_lay_92 : decode cX5_lay 92 = .ok (.bipush 16, 2) := by decide +kernel
theorem dX5_lay_94 : decode cX5_lay 94 = .ok (.ishr, 1) := by decide +kernel
theorem dX5_lay_95 : decode cX5_lay 95 = .ok (.goto 4, 3) := by decide +kernel
theorem dX5_lay_98 : decode cX5_lay 98 = .ok (.iload_n 3, 1) := by decide +kernel
theorem dX5_lay_99 : decode cX5_lay 99 = .ok (.iastore, 1) := by decide +kernel
theorem dX5_lay_100 : decode cX5_lay 100 = .ok (.iconst 1, 1) := by decide +kernel
theorem dX5_lay_101 : decode cX5_lay 101 = .ok (.ireturn, 1) := by decide +kernel
theorem dX5_read_0 : decode cX5_read 0 = .ok (.iload_n 1, 1) := by decide +kernel
theorem dX5_read_1 : decode cX5_read 1 = .ok (.i2l, 1) := by decide +kernel
theorem dX5_read_2 : decode cX5_read 2 = .ok (.lconst 0, 1) := by decide +kernel
theorem dX5_read_3 : decode cX5_read 3 = .ok (.ldc2_w 91, 3) := by decide +kernel
theorem dX5_read_6 : decode cX5_read 6 = .ok (.invokestatic 46, 3) := by decide +kernel
theorem dX5_read_9 : decode cX5_read 9 = .ok (.ifCond .eq 28, 3) := by decide +kernel
theorem dX5_read_12 : decode cX5_read 12 = .ok (.iload_n 2, 1) := by decide +kernel
theorem dX5_read_13 : decode cX5_read 13 = .ok (.i2l, 1) := by decide +kernel
theorem dX5_read_14 : decode cX5_read 14 = .ok (.lconst 0, 1) := by decide +kernel
theorem dX5_read_15 : decode cX5_read 15 = .ok (.ldc2_w 262, 3) := by decide +kernel
theorem dX5_read_18 : decode cX5_read 18 = .ok (.invokestatic 46, 3) := by decide +kernel
theorem dX5_read_21 : decode cX5_read 21 = .ok (.ifCond .eq 16, 3) := by decide +kernel
theorem dX5_read_24 : decode cX5_read 24 = .ok (.iload 4, 2) := by decide +kernel
theorem dX5_read_26 : decode cX5_read 26 = .ok (.i2l, 1) := by decide +kernel
theorem dX5_read_27 : decode cX5_read 27 = .ok (.lconst 0, 1) := by decide +kernel
theorem dX5_read_28 : decode cX5_read 28 = .ok (.ldc2_w 238, 3) := by decide +kernel
theorem dX5_read_31 : decode cX5_read 31 = .ok (.invokestatic 46, 3) := by decide +kernel
theorem dX5_read_34 : decode cX5_read 34 = .ok (.ifCond .ne 5, 3) := by decide +kernel
theorem dX5_read_37 : decode cX5_read 37 = .ok (.iconst (-1), 1) := by decide +kernel
theorem dX5_read_38 : decode cX5_read 38 = .ok (.ireturn, 1) := by decide +kernel
theorem dX5_read_39 : decode cX5_read 39 = .ok (.aload_n 0, 1) := by decide +kernel
theorem dX5_read_40 : decode cX5_read 40 = .ok (.iconst 0, 1) := by decide +kernel
theorem dX5_read_41 : decode cX5_read 41 = .ok (.sipush 165, 3) := by decide +kernel
theorem dX5_read_44 : decode cX5_read 44 = .ok (.invokevirtual 216, 3) := by decide +kernel
theorem dX5_read_47 : decode cX5_read 47 = .ok (.iconst 0, 1) := by decide +kernel
theorem dX5_read_48 : decode cX5_read 48 = .ok (.istore 5, 2) := by decide +kernel
theorem dX5_read_50 : decode cX5_read 50 = .ok (.iconst 0, 1) := by decide +kernel
theorem dX5_read_51 : decode cX5_read 51 = .ok (.istore 6, 2) := by decide +kernel
theorem dX5_read_53 : decode cX5_read 53 = .ok (.iconst 0, 1) := by decide +kernel
theorem dX5_read_54 : decode cX5_read 54 = .ok (.istore 7, 2) := by decide +kernel
theorem dX5_read_56 : decode cX5_read 56 = .ok (.iload 7, 2) := by decide +kernel
theorem dX5_read_58 : decode cX5_read 58 = .ok (.iconst 4, 1) := by decide +kernel
theorem dX5_read_59 : decode cX5_read 59 = .ok (.iload 4, 2) := by decide +kernel
theorem dX5_read_61 : decode cX5_read 61 = .ok (.imul, 1) := by decide +kernel
theorem dX5_read_62 : decode cX5_read 62 = .ok (.if_icmp .ge 154, 3) := by decide +kernel
theorem dX5_read_65 : decode cX5_read 65 = .ok (.iload 5, 2) := by decide +kernel
theorem dX5_read_67 : decode cX5_read 67 = .ok (.ifCond .ne 149, 3) := by decide +kernel
theorem dX5_read_70 : decode cX5_read 70 = .ok (.aload_n 0, 1) := by decide +kernel
theorem dX5_read_71 : decode cX5_read 71 = .ok (.getfield 35, 3) := by decide +kernel
theorem dX5_read_74 : decode cX5_read 74 = .ok (.iload_n 1, 1) := by decide +kernel
theorem dX5_read_75 : decode cX5_read 75 = .ok (.iaload, 1) := by decide +kernel
theorem dX5_read_76 : decode cX5_read 76 = .ok (.bipush (-4), 2) := by decide +kernel
theorem dX5_read_78 : decode cX5_read 78 = .ok (.if_icmp .ne 7, 3) := by decide +kernel
theorem dX5_read_81 : decode cX5_read 81 = .ok (.iconst 1, 1) := by decide +kernel
theorem dX5_read_82 : decode cX5_read 82 = .ok (.goto 44, 3) := by decide +kernel
theorem dX5_read_85 : decode cX5_read 85 = .ok (.aload_n 0, 1) := by decide +kernel
theorem dX5_read_86 : decode cX5_read 86 = .ok (.getfield 35, 3) := by decide +kernel
theorem dX5_read_89 : decode cX5_read 89 = .ok (.iload_n 1, 1) := by decide +kernel
theorem dX5_read_90 : decode cX5_read 90 = .ok (.iaload, 1) := by decide +kernel
theorem dX5_read_91 : decode cX5_read 91 = .ok (.iload_n 2, 1) := by decide +kernel
theorem dX5_read_92 : decode cX5_read 92 = .ok (.if_icmp .eq 7, 3) := by decide +kernel
theorem dX5_read_95 : decode cX5_read 95 = .ok (.iconst 3, 1) := by decide +kernel
theorem dX5_read_96 : decode cX5_read 96 = .ok (.goto 30, 3) := by decide +kernel
theorem dX5_read_99 : decode cX5_read 99 = .ok (.iload_n 3, 1) := by decide +kernel
theorem dX5_read_100 : decode cX5_read 100 = .ok (.i2l, 1) := by decide +kernel
theorem dX5_read_101 : decode cX5_read 101 = .ok (.iload 7, 2) := by decide +kernel
theorem dX5_read_103 : decode cX5_read 103 = .ok (.i2l, 1) := by decide +kernel
theorem dX5_read_104 : decode cX5_read 104 = .ok (.ladd, 1) := by decide +kernel
theorem dX5_read_105 : decode cX5_read 105 = .ok (.lconst 0, 1) := by decide +kernel
theorem dX5_read_106 : decode cX5_read 106 = .ok (.aload_n 0, 1) := by decide +kernel
theorem dX5_read_107 : decode cX5_read 107 = .ok (.getfield 38, 3) := by decide +kernel
theorem dX5_read_110 : decode cX5_read 110 = .ok (.iload_n 1, 1) := by decide +kernel
theorem dX5_read_111 : decode cX5_read 111 = .ok (.iaload, 1) := by decide +kernel
theorem dX5_read_112 : decode cX5_read 112 = .ok (.iconst 1, 1) := by decide +kernel
theorem dX5_read_113 : decode cX5_read 113 = .ok (.isub, 1) := by decide +kernel
theorem dX5_read_114 : decode cX5_read 114 = .ok (.i2l, 1) := by decide +kernel
theorem dX5_read_115 : decode cX5_read 115 = .ok (.invokestatic 46, 3) := by decide +kernel
theorem dX5_read_118 : decode cX5_read 118 = .ok (.ifCond .ne 7, 3) := by decide +kernel
theorem dX5_read_121 : decode cX5_read 121 = .ok (.iconst 2, 1) := by decide +kernel
theorem dX5_read_122 : decode cX5_read 122 = .ok (.goto 4, 3) := by decide +kernel
theorem dX5_read_125 : decode cX5_read 125 = .ok (.iconst 0, 1) := by decide +kernel
theorem dX5_read_126 : decode cX5_read 126 = .ok (.istore 5, 2) := by decide +kernel
theorem dX5_read_128 : decode cX5_read 128 = .ok (.iload 5, 2) := by decide +kernel
theorem dX5_read_130 : decode cX5_read 130 = .ok (.ifCond .ne 80, 3) := by decide +kernel
theorem dX5_read_133 : decode cX5_read 133 = .ok (.iload 7, 2) := by decide +kernel
theorem dX5_read_135 : decode cX5_read 135 = .ok (.iconst 4, 1) := by decide +kernel
theorem dX5_read_136 : decode cX5_read 136 = .ok (.irem, 1) := by decide +kernel
theorem dX5_read_137 : decode cX5_read 137 = .ok (.iconst 3, 1) := by decide +kernel
theorem dX5_read_138 : decode cX5_read 138 = .ok (.if_icmp .ne 72, 3) := by decide +kernel
theorem dX5_read_141 : decode cX5_read 141 = .ok (.bipush 40, 2) := by decide +kernel
theorem dX5_read_143 : decode cX5_read 143 = .ok (.iload_n 1, 1) := by decide +kernel
theorem dX5_read_144 : decode cX5_read 144 = .ok (.imul, 1) := by decide +kernel
theorem dX5_read_145 : decode cX5_read 145 = .ok (.iload_n 3, 1) := by decide +kernel
theorem dX5_read_146 : decode cX5_read 146 = .ok (.iadd, 1) := by decide +kernel
theorem dX5_read_147 : decode cX5_read 147 = .ok (.iload 7, 2) := by decide +kernel
theorem dX5_read_149 : decode cX5_read 149 = .ok (.iadd, 1) := by decide +kernel
theorem dX5_read_150 : decode cX5_read 150 = .ok (.istore 8, 2) := by decide +kernel
theorem dX5_read_152 : decode cX5_read 152 = .ok (.aload_n 0, 1) := by decide +kernel
theorem dX5_read_153 : decode cX5_read 153 = .ok (.aload_n 0, 1) := by decide +kernel
theorem dX5_read_154 : decode cX5_read 154 = .ok (.getfield 41, 3) := by decide +kernel
theorem dX5_read_157 : decode cX5_read 157 = .ok (.iload 8, 2) := by decide +kernel
theorem dX5_read_159 : decode cX5_read 159 = .ok (.iconst 3, 1) := by decide +kernel
theorem dX5_read_160 : decode cX5_read 160 = .ok (.isub, 1) := by decide +kernel
theorem dX5_read_161 : decode cX5_read 161 = .ok (.iaload, 1) := by decide +kernel
theorem dX5_read_162 : decode cX5_read 162 = .ok (.aload_n 0, 1) := by decide +kernel
theorem dX5_read_163 : decode cX5_read 163 = .ok (.getfield 41, 3) := by decide +kernel
theorem dX5_read_166 : decode cX5_read 166 = .ok (.iload 8, 2) := by decide +kernel
theorem dX5_read_168 : decode cX5_read 168 = .ok (.iconst 2, 1) := by decide +kernel
theorem dX5_read_169 : decode cX5_read 169 = .ok (.isub, 1) := by decide +kernel
theorem dX5_read_170 : decode cX5_read 170 = .ok (.iaload, 1) := by decide +kernel
theorem dX5_read_171 : decode cX5_read 171 = .ok (.aload_n 0, 1) := by decide +kernel
theorem dX5_read_172 : decode cX5_read 172 = .ok (.getfield 41, 3) := by decide +kernel
theorem dX5_read_175 : decode cX5_read 175 = .ok (.iload 8, 2) := by decide +kernel
theorem dX5_read_177 : decode cX5_read 177 = .ok (.iconst 1, 1) := by decide +kernel
theorem dX5_read_178 : decode cX5_read 178 = .ok (.isub, 1) := by decide +kernel
theorem dX5_read_179 : decode cX5_read 179 = .ok (.iaload, 1) := by decide +kernel
theorem dX5_read_180 : decode cX5_read 180 = .ok (.aload_n 0, 1) := by decide +kernel
theorem dX5_read_181 : decode cX5_read 181 = .ok (.getfield 41, 3) := by decide +kernel
theorem dX5_read_184 : decode cX5_read 184 = .ok (.iload 8, 2) := by decide +kernel
theorem dX5_read_186 : decode cX5_read 186 = .ok (.iaload, 1) := by decide +kernel
theorem dX5_read_187 : decode cX5_read 187 = .ok (.invokevirtual 208, 3) := by decide +kernel
theorem dX5_read_190 : decode cX5_read 190 = .ok (.ifCond .ge 17, 3) := by decide +kernel
theorem dX5_read_193 : decode cX5_read 193 = .ok (.aload_n 0, 1) := by decide +kernel
theorem dX5_read_194 : decode cX5_read 194 = .ok (.sipush 165, 3) := by decide +kernel
theorem dX5_read_197 : decode cX5_read 197 = .ok (.iconst 0, 1) := by decide +kernel
theorem dX5_read_198 : decode cX5_read 198 = .ok (.invokevirtual 216, 3) := by decide +kernel
theorem dX5_read_201 : decode cX5_read 201 = .ok (.bipush (-20), 2) := by decide +kernel
theorem dX5_read_203 : decode cX5_read 203 = .ok (.iload 6, 2) := by decide +kernel
theorem dX5_read_205 : decode cX5_read 205 = .ok (.isub, 1) := by decide +kernel
theorem dX5_read_206 : decode cX5_read 206 = .ok (.ireturn, 1) := by decide +kernel
theorem dX5_read_207 : decode cX5_read 207 = .ok (.iinc 6 1, 3) := by decide +kernel
theorem dX5_read_210 : decode cX5_read 210 = .ok (.iinc 7 1, 3) := by decide +kernel
theorem dX5_read_213 : decode cX5_read 213 = .ok (.goto (-157), 3) := by decide +kernel
theorem dX5_read_216 : decode cX5_read 216 = .ok (.aload_n 0, 1) := by decide +kernel
theorem dX5_read_217 : decode cX5_read 217 = .ok (.iload 5, 2) := by decide +kernel
theorem dX5_read_219 : decode cX5_read 219 = .ok (.putfield 264, 3) := by decide +kernel
theorem dX5_read_222 : decode cX5_read 222 = .ok (.iload 6, 2) := by decide +kernel
theorem dX5_read_224 : decode cX5_read 224 = .ok (.ireturn, 1) := by decide +kernel
theorem dX5_torn_0 : decode cX5_torn 0 = .ok (.aload_n 0, 1) := by decide +kernel
theorem dX5_torn_1 : decode cX5_torn 1 = .ok (.getfield 264, 3) := by decide +kernel
theorem dX5_torn_4 : decode cX5_torn 4 = .ok (.ireturn, 1) := by decide +kernel
theorem dX5_count_0 : decode cX5_count 0 = .ok (.iconst 0, 1) := by decide +kernel
theorem dX5_count_1 : decode cX5_count 1 = .ok (.istore_n 2, 1) := by decide +kernel
theorem dX5_count_2 : decode cX5_count 2 = .ok (.iconst 0, 1) := by decide +kernel
theorem dX5_count_3 : decode cX5_count 3 = .ok (.istore_n 3, 1) := by decide +kernel
theorem dX5_count_4 : decode cX5_count 4 = .ok (.iconst 0, 1) := by decide +kernel
theorem dX5_count_5 : decode cX5_count 5 = .ok (.istore 4, 2) := by decide +kernel
theorem dX5_count_7 : decode cX5_count 7 = .ok (.iload 4, 2) := by decide +kernel
theorem dX5_count_9 : decode cX5_count 9 = .ok (.aload_n 0, 1) := by decide +kernel
theorem dX5_count_10 : decode cX5_count 10 = .ok (.getfield 131, 3) := by decide +kernel
theorem dX5_count_13 : decode cX5_count 13 = .ok (.if_icmp .ge 22, 3) := by decide +kernel
theorem dX5_count_16 : decode cX5_count 16 = .ok (.iload_n 2, 1) := by decide +kernel
theorem dX5_count_17 : decode cX5_count 17 = .ok (.aload_n 0, 1) := by decide +kernel
theorem dX5_count_18 : decode cX5_count 18 = .ok (.getfield 7, 3) := by decide +kernel
theorem dX5_count_21 : decode cX5_count 21 = .ok (.bipush 10, 2) := by decide +kernel
theorem dX5_count_23 : decode cX5_count 23 = .ok (.iload 4, 2) := by decide +kernel
theorem dX5_count_25 : decode cX5_count 25 = .ok (.iadd, 1) := by decide +kernel
theorem dX5_count_26 : decode cX5_count 26 = .ok (.iaload, 1) := by decide +kernel
theorem dX5_count_27 : decode cX5_count 27 = .ok (.iadd, 1) := by decide +kernel
theorem dX5_count_28 : decode cX5_count 28 = .ok (.istore_n 2, 1) := by decide +kernel
theorem dX5_count_29 : decode cX5_count 29 = .ok (.iinc 4 1, 3) := by decide +kernel
theorem dX5_count_32 : decode cX5_count 32 = .ok (.goto (-25), 3) := by decide +kernel
theorem dX5_count_35 : decode cX5_count 35 = .ok (.iconst 0, 1) := by decide +kernel
theorem dX5_count_36 : decode cX5_count 36 = .ok (.istore 4, 2) := by decide +kernel
theorem dX5_count_38 : decode cX5_count 38 = .ok (.iload 4, 2) := by decide +kernel
theorem dX5_count_40 : decode cX5_count 40 = .ok (.iconst 4, 1) := by decide +kernel
theorem dX5_count_41 : decode cX5_count 41 = .ok (.if_icmp .ge 24, 3) := by decide +kernel
theorem dX5_count_44 : decode cX5_count 44 = .ok (.iload_n 3, 1) := by decide +kernel
theorem dX5_count_45 : decode cX5_count 45 = .ok (.aload_n 0, 1) := by decide +kernel
theorem dX5_count_46 : decode cX5_count 46 = .ok (.getfield 7, 3) := by decide +kernel
theorem dX5_count_49 : decode cX5_count 49 = .ok (.bipush 16, 2) := by decide +kernel
theorem dX5_count_51 : decode cX5_count 51 = .ok (.iload 4, 2) := by decide +kernel
theorem dX5_count_53 : decode cX5_count 53 = .ok (.iadd, 1) := by decide +kernel
theorem dX5_count_54 : decode cX5_count 54 = .ok (.iaload, 1) := by decide +kernel
theorem dX5_count_55 : decode cX5_count 55 = .ok (.iconst 1, 1) := by decide +kernel
theorem dX5_count_56 : decode cX5_count 56 = .ok (.iadd, 1) := by decide +kernel
theorem dX5_count_57 : decode cX5_count 57 = .ok (.iadd, 1) := by decide +kernel
theorem dX5_count_58 : decode cX5_count 58 = .ok (.istore_n 3, 1) := by decide +kernel
theorem dX5_count_59 : decode cX5_count 59 = .ok (.iinc 4 1, 3) := by decide +kernel
theorem dX5_count_62 : decode cX5_count 62 = .ok (.goto (-24), 3) := by decide +kernel
theorem dX5_count_65 : decode cX5_count 65 = .ok (.iload_n 1, 1) := by decide +kernel
theorem dX5_count_66 : decode cX5_count 66 = .ok (.tableswitch 105 0 5 #[38, 43, 73, 78, 101, 103], 38) := by decide +kernel
theorem dX5_count_104 : decode cX5_count 104 = .ok (.aload_n 0, 1) := by decide +kernel
theorem dX5_count_105 : decode cX5_count 105 = .ok (.getfield 134, 3) := by decide +kernel
theorem dX5_count_108 : decode cX5_count 108 = .ok (.ireturn, 1) := by decide +kernel
theorem dX5_count_109 : decode cX5_count 109 = .ok (.aload_n 0, 1) := by decide +kernel
theorem dX5_count_110 : decode cX5_count 110 = .ok (.getfield 31, 3) := by decide +kernel
theorem dX5_count_113 : decode cX5_count 113 = .ok (.iconst 0, 1) := by decide +kernel
theorem dX5_count_114 : decode cX5_count 114 = .ok (.baload, 1) := by decide +kernel
theorem dX5_count_115 : decode cX5_count 115 = .ok (.ifCond .eq 7, 3) := by decide +kernel
theorem dX5_count_118 : decode cX5_count 118 = .ok (.iconst 1, 1) := by decide +kernel
theorem dX5_count_119 : decode cX5_count 119 = .ok (.goto 4, 3) := by decide +kernel
theorem dX5_count_122 : decode cX5_count 122 = .ok (.iconst 0, 1) := by decide +kernel
theorem dX5_count_123 : decode cX5_count 123 = .ok (.aload_n 0, 1) := by decide +kernel
theorem dX5_count_124 : decode cX5_count 124 = .ok (.getfield 31, 3) := by decide +kernel
theorem dX5_count_127 : decode cX5_count 127 = .ok (.iconst 1, 1) := by decide +kernel
theorem dX5_count_128 : decode cX5_count 128 = .ok (.baload, 1) := by decide +kernel
theorem dX5_count_129 : decode cX5_count 129 = .ok (.ifCond .eq 7, 3) := by decide +kernel
theorem dX5_count_132 : decode cX5_count 132 = .ok (.iconst 1, 1) := by decide +kernel
theorem dX5_count_133 : decode cX5_count 133 = .ok (.goto 4, 3) := by decide +kernel
theorem dX5_count_136 : decode cX5_count 136 = .ok (.iconst 0, 1) := by decide +kernel
theorem dX5_count_137 : decode cX5_count 137 = .ok (.iadd, 1) := by decide +kernel
theorem dX5_count_138 : decode cX5_count 138 = .ok (.ireturn, 1) := by decide +kernel
theorem dX5_count_139 : decode cX5_count 139 = .ok (.aload_n 0, 1) := by decide +kernel
theorem dX5_count_140 : decode cX5_count 140 = .ok (.getfield 50, 3) := by decide +kernel
theorem dX5_count_143 : decode cX5_count 143 = .ok (.ireturn, 1) := by decide +kernel
theorem dX5_count_144 : decode cX5_count 144 = .ok (.aload_n 0, 1) := by decide +kernel
theorem dX5_count_145 : decode cX5_count 145 = .ok (.getfield 35, 3) := by decide +kernel
theorem dX5_count_148 : decode cX5_count 148 = .ok (.iconst 0, 1) := by decide +kernel
theorem dX5_count_149 : decode cX5_count 149 = .ok (.iaload, 1) := by decide +kernel
theorem dX5_count_150 : decode cX5_count 150 = .ok (.bipush (-4), 2) := by decide +kernel
theorem dX5_count_152 : decode cX5_count 152 = .ok (.if_icmp .ne 8, 3) := by decide +kernel
theorem dX5_count_155 : decode cX5_count 155 = .ok (.bipush (-4), 2) := by decide +kernel
theorem dX5_count_157 : decode cX5_count 157 = .ok (.goto 9, 3) := by decide +kernel
theorem dX5_count_160 : decode cX5_count 160 = .ok (.aload_n 0, 1) := by decide +kernel
theorem dX5_count_161 : decode cX5_count 161 = .ok (.getfield 38, 3) := by decide +kernel
theorem dX5_count_164 : decode cX5_count 164 = .ok (.iconst 0, 1) := by decide +kernel
theorem dX5_count_165 : decode cX5_count 165 = .ok (.iaload, 1) := by decide +kernel
theorem dX5_count_166 : decode cX5_count 166 = .ok (.ireturn, 1) := by decide +kernel
theorem dX5_count_167 : decode cX5_count 167 = .ok (.iload_n 2, 1) := by decide +kernel
theorem dX5_count_168 : decode cX5_count 168 = .ok (.ireturn, 1) := by decide +kernel
theorem dX5_count_169 : decode cX5_count 169 = .ok (.iload_n 3, 1) := by decide +kernel
theorem dX5_count_170 : decode cX5_count 170 = .ok (.ireturn, 1) := by decide +kernel
theorem dX5_count_171 : decode cX5_count 171 = .ok (.iconst (-1), 1) := by decide +kernel
theorem dX5_count_172 : decode cX5_count 172 = .ok (.ireturn, 1) := by decide +kernel
end
section
/-! ===== numbers: an Int stands for its Int32 (vi) or Int64 (vl); wr, wl bring it into the range ===== -/
abbrev St : Type := Nat → Nat → Int
def vi (x : Int) : Value := .int (Int32.ofInt x)
def vl (x : Int) : Value := .long (Int64.ofInt x)
def wr (x : Int) : Int := (Int32.ofInt x).toInt
def wl (x : Int) : Int := (Int64.ofInt x).toInt
theorem wr_of {x : Int} (h1 : -2147483648 ≤ x) (h2 : x ≤ 2147483647) : wr x = x := by
  unfold wr
  rw [Int32.toInt_ofInt]
  show Int.bmod x 4294967296 = x
  exact Int.bmod_eq_of_le (by omega) (by omega)
theorem wl_of {x : Int} (h1 : -9223372036854775808 ≤ x) (h2 : x ≤ 9223372036854775807) : wl x = x := by
  unfold wl
  rw [Int64.toInt_ofInt]
  show Int.bmod x 18446744073709551616 = x
  exact Int.bmod_eq_of_le (by omega) (by omega)
theorem wr_ge (x : Int) : -2147483648 ≤ wr x := Int32.le_toInt _
theorem wr_le (x : Int) : wr x ≤ 2147483647 := by have := Int32.toInt_lt (Int32.ofInt x); unfold wr; omega
theorem wr_wr (x : Int) : wr (wr x) = wr x := wr_of (wr_ge x) (wr_le x)
theorem vi_wr (x : Int) : vi (wr x) = vi x := by unfold vi wr; rw [Int32.ofInt_toInt]
theorem vi_toInt (X : Int32) : vi X.toInt = .int X := by unfold vi; rw [Int32.ofInt_toInt]
theorem vl_toInt (X : Int64) : vl X.toInt = .long X := by unfold vl; rw [Int64.ofInt_toInt]
def iad (x y : Int) : Int := (Int32.ofInt x &&& Int32.ofInt y).toInt
def iod (x y : Int) : Int := (Int32.ofInt x ||| Int32.ofInt y).toInt
def ixd (x y : Int) : Int := (Int32.ofInt x ^^^ Int32.ofInt y).toInt
def isl (x y : Int) : Int := (Int32.ofInt x <<< (Int32.ofInt y &&& 31)).toInt
def isr (x y : Int) : Int := (Int32.ofInt x >>> (Int32.ofInt y &&& 31)).toInt
def ius (x y : Int) : Int := ((Int32.ofInt x).toUInt32 >>> ((Int32.ofInt y).toUInt32 &&& Int32.toUInt32 31)).toInt32.toInt
def nby (x : Int) : Int := (Int32.ofInt x).toInt8.toInt32.toInt
def nsh (x : Int) : Int := (Int32.ofInt x).toInt16.toInt32.toInt
def nch (x : Int) : Int := ((Int32.ofInt x).toUInt32 % 65536).toInt32.toInt
def nab (x : Int) : Int := (vp_nar .byte (Int32.ofInt x)).toInt
def naz (x : Int) : Int := (vp_nar .boolean (Int32.ofInt x)).toInt
def idv (x y : Int) : Option Int := if wr y = 0 then none else some (Int32.ofInt x / Int32.ofInt y).toInt
def irm (x y : Int) : Option Int := if wr y = 0 then none else some (Int32.ofInt x - Int32.ofInt x / Int32.ofInt y * Int32.ofInt y).toInt
def ldv (x y : Int) : Option Int := if wl y = 0 then none else some (Int64.ofInt x / Int64.ofInt y).toInt
def lrm (x y : Int) : Option Int := if wl y = 0 then none else some (Int64.ofInt x - Int64.ofInt x / Int64.ofInt y * Int64.ofInt y).toInt
def lcm (x y : Int) : Int := if wl y < wl x then 1 else if wl x = wl y then 0 else -1
def bi (b : Bool) : Int := if b then 1 else 0
def ld (σ : St) (a n : Nat) (i : Int) : Option Int := if 0 ≤ wr i ∧ wr i < n then some (σ a (wr i).toNat) else none
def up (σ : St) (a j : Nat) (v : Int) : St := fun b i => if b = a ∧ i = j then v else σ b i
def sv (σ : St) (a n : Nat) (i v : Int) : Option St := if 0 ≤ wr i ∧ wr i < n then some (up σ a (wr i).toNat v) else none
def bI {α ρ : Type} (o : Option (α × St)) (k : α → St → Option ρ) : Option ρ := match o with
  | some (a, s) => k a s
  | none => none
def bV {α ρ : Type} (o : Option α) (k : α → Option ρ) : Option ρ := match o with
  | some a => k a
  | none => none
/-! ===== the shape of the 63 cells: rows (kind of number, length), objects (class, fields: none a number, some t the cell t) ===== -/
def sqF (q : Nat) : List (Option Nat) := [none, some (q + 1), some (q + 2), some (q + 3), none, some (q + 4), none, some (q + 5), some (q + 6), some (q + 7), some (q + 8), none, none, none, some (q + 9)]
abbrev Shp : Type := (Nat × Nat) ⊕ (Nat × List (Option Nat))
def sqT (q : Nat) : List Shp := [.inr (2, sqF q), .inl (0, 5), .inl (0, 5), .inl (0, 5), .inl (0, 4), .inl (0, 8), .inl (0, 8), .inl (0, 8), .inl (0, 8), .inl (0, 4)]
def tbL : List Shp := [.inr (4, [some 1, some 11, some 21, some 31, some 41, some 43, some 47, none, none, none])] ++ sqT 1 ++ sqT 11 ++ sqT 21 ++ sqT 31 ++
  [.inr (3, [some 42, none, none, none, none, none, none, none, none, none]), .inl (1, 160), .inr (1, [none, some 44, some 45, some 46]), .inl (0, 6), .inl (0, 6), .inl (0, 6), .inr (0, [some 48, some 49, some 50]), .inl (0, 4), .inl (0, 4), .inl (0, 160),
   .inr (5, [some 52, none, some 53, none, none, none, none, some 54, none, none, none, none, none, none, none, none, some 55, some 56, none, none, none, none, some 57, none, some 58, some 59, some 60, some 61, some 62, none]),
   .inl (0, 330), .inl (0, 55), .inl (0, 160), .inl (0, 8), .inl (0, 36), .inl (0, 18), .inl (0, 1680), .inl (2, 2), .inl (0, 4), .inl (0, 4), .inl (0, 160)]
def tb (k : Nat) : Shp := tbL.getD k (.inr (99, []))
def isSq (q : Nat) : Prop := q = 1 ∨ q = 11 ∨ q = 21 ∨ q = 31
/-- the ghosts: where the cells lie; the classes and their slots; the classes of int[], byte[], boolean[]; where the seven words lie, and their bytes -/
abbrev Gh : Type := (Nat → Nat) × va_G × (ClassId × ClassId × ClassId) × (Nat → Nat) × (Nat → Nat)
def ad (G : Gh) (k : Nat) : Nat := G.1 k
def gD (G : Gh) : va_G := G.2.1
def gC (G : Gh) (t : Nat) : ClassId := match t with
  | 0 => G.2.2.1.1
  | 1 => G.2.2.1.2.1
  | _ => G.2.2.1.2.2
def tyN (t : Nat) : FieldType := match t with
  | 0 => .int
  | 1 => .byte
  | _ => .boolean
def gT (G : Gh) : List (ClassId × FieldType) := [(gC G 0, .int), (gC G 1, .byte), (gC G 2, .boolean)]
def AD (G : Gh) (q : Nat) : Prop := ∃ k, k < 63 ∧ q = ad G k
def fv (G : Gh) (σ : St) (k : Nat) : Nat → List (Option Nat) → List Value
  | _, [] => []
  | j, none :: fl => vi (σ k j) :: fv G σ k (j + 1) fl
  | j, some t :: fl => .ref (ad G t) :: fv G σ k (j + 1) fl
def ent (G : Gh) (σ : St) (k : Nat) : va_E := match tb k with
  | .inl (t, n) => .inl (gC G t, n, .inl (fun j => Int32.ofInt (σ k j)))
  | .inr (ci, fl) => .inr (ci, fv G σ k 0 fl)
def wd (G : Gh) (σ : St) : va_W := (List.range 63).map (fun k => (ad G k, ent G σ k))
theorem wd_get (G : Gh) (σ : St) {k : Nat} (h : k < 63) : (wd G σ)[k]? = some (ad G k, ent G σ k) := by
  unfold wd
  rw [List.getElem?_map, List.getElem?_range h]
  rfl
theorem tb_lt {k t n : Nat} (h : tb k = .inl (t, n)) : k < 63 := by
  rcases Nat.lt_or_ge k 63 with q | q
  · exact q
  · have h1 : tbL.length = 63 := rfl
    unfold tb at h
    rw [List.getD_eq_getElem?_getD, List.getElem?_eq_none (by omega)] at h
    cases h
theorem tb_lt' {k ci : Nat} {fl : List (Option Nat)} (h : tb k = .inr (ci, fl)) (hc : ci < 6) : k < 63 := by
  rcases Nat.lt_or_ge k 63 with q | q
  · exact q
  · have h1 : tbL.length = 63 := rfl
    unfold tb at h
    rw [List.getD_eq_getElem?_getD, List.getElem?_eq_none (by omega)] at h
    cases h
    omega
theorem fv_num (G : Gh) (σ : St) (k : Nat) : ∀ (fl : List (Option Nat)) (j0 j : Nat), fl[j]? = some none → (fv G σ k j0 fl)[j]? = some (vi (σ k (j0 + j))) := by
  intro fl
  induction fl with
  | nil => intro j0 j h; simp at h
  | cons a fl ih =>
    intro j0 j h
    cases j with
    | zero =>
      simp at h
      subst h
      rfl
    | succ j =>
      simp at h
      have h2 := ih (j0 + 1) j h
      have e : j0 + 1 + j = j0 + (j + 1) := by omega
      rw [e] at h2
      cases a <;> simpa [fv] using h2
theorem fv_ref (G : Gh) (σ : St) (k : Nat) {t : Nat} : ∀ (fl : List (Option Nat)) (j0 j : Nat), fl[j]? = some (some t) → (fv G σ k j0 fl)[j]? = some (.ref (ad G t)) := by
  intro fl
  induction fl with
  | nil => intro j0 j h; simp at h
  | cons a fl ih =>
    intro j0 j h
    cases j with
    | zero =>
      simp at h
      subst h
      rfl
    | succ j =>
      simp at h
      have h2 := ih (j0 + 1) j h
      cases a <;> simpa [fv] using h2
theorem fv_len (G : Gh) (σ : St) (k : Nat) : ∀ (fl : List (Option Nat)) (j0 : Nat), (fv G σ k j0 fl).length = fl.length := by
  intro fl
  induction fl with
  | nil => intro j0; rfl
  | cons a fl ih => intro j0; cases a <;> simp [fv, ih]
theorem fv_out (G : Gh) (σ : St) (k a i : Nat) (v : Int) : ∀ (fl : List (Option Nat)) (j0 : Nat), (k ≠ a ∨ i < j0) → fv G (up σ a i v) k j0 fl = fv G σ k j0 fl := by
  intro fl
  induction fl with
  | nil => intro j0 _; rfl
  | cons b fl ih =>
    intro j0 h
    cases b with
    | none =>
      simp only [fv]
      rw [ih (j0 + 1) (by omega)]
      have e : up σ a i v k j0 = σ k j0 := by unfold up; rw [if_neg (by omega)]
      rw [e]
    | some t =>
      simp only [fv]
      rw [ih (j0 + 1) (by omega)]
theorem fv_set (G : Gh) (σ : St) (k : Nat) (v : Int) : ∀ (fl : List (Option Nat)) (j0 j : Nat), fl[j]? = some none → (fv G σ k j0 fl).set j (vi v) = fv G (up σ k (j0 + j) v) k j0 fl := by
  intro fl
  induction fl with
  | nil => intro j0 j h; simp at h
  | cons b fl ih =>
    intro j0 j h
    cases j with
    | zero =>
      simp at h
      subst h
      simp only [fv, List.set]
      rw [fv_out G σ k k (j0 + 0) v fl (j0 + 1) (by omega)]
      have e : up σ k (j0 + 0) v k j0 = v := by unfold up; simp
      rw [e]
    | succ j =>
      simp at h
      have h2 := ih (j0 + 1) j h
      have e : j0 + 1 + j = j0 + (j + 1) := by omega
      rw [e] at h2
      cases b with
      | none =>
        simp only [fv, List.set]
        rw [h2]
        have e : up σ k (j0 + (j + 1)) v k j0 = σ k j0 := by unfold up; rw [if_neg (by omega)]
        rw [e]
      | some t =>
        simp only [fv, List.set]
        rw [h2]
theorem wd_set {G : Gh} {σ σ' : St} {k : Nat} {x : va_E} (hk : k < 63) (hx : x = ent G σ' k) (ho : ∀ i, i ≠ k → ent G σ' i = ent G σ i) : (wd G σ).set k (ad G k, x) = wd G σ' := by
  subst hx
  apply List.ext_getElem?
  intro i
  rw [List.getElem?_set]
  by_cases hi : k = i
  · subst hi
    rw [if_pos rfl, wd_get G σ' hk]
    simp [wd, hk]
  · rw [if_neg hi]
    unfold wd
    rw [List.getElem?_map, List.getElem?_map]
    cases hr : (List.range 63)[i]? with
    | none => rfl
    | some y =>
      have hy : y = i := by
        have := List.getElem?_eq_some_iff.mp hr
        obtain ⟨h1, h2⟩ := this
        simp at h2
        omega
      subst hy
      simp [ho y (fun e => hi e.symm)]
theorem ent_out {G : Gh} {σ : St} {k j : Nat} {v : Int} : ∀ i, i ≠ k → ent G (up σ k j v) i = ent G σ i := by
  intro i hi
  unfold ent
  cases tb i with
  | inl q =>
    have e : (fun j_1 => Int32.ofInt (up σ k j v i j_1)) = (fun j => Int32.ofInt (σ i j)) := by
      funext z
      unfold up
      rw [if_neg (by omega)]
    show Sum.inl (gC G q.1, q.2, Sum.inl (fun j_1 => Int32.ofInt (up σ k j v i j_1))) = _
    rw [e]
  | inr q =>
    show Sum.inr (q.1, fv G (up σ k j v) i 0 q.2) = _
    rw [fv_out G σ i k j v q.2 0 (by omega)]
theorem ent_arr {G : Gh} {σ : St} {k t n : Nat} (h : tb k = .inl (t, n)) : ent G σ k = .inl (gC G t, n, .inl (fun j => Int32.ofInt (σ k j))) := by
  unfold ent
  rw [h]
theorem ent_obj {G : Gh} {σ : St} {k ci : Nat} {fl : List (Option Nat)} (h : tb k = .inr (ci, fl)) : ent G σ k = .inr (ci, fv G σ k 0 fl) := by
  unfold ent
  rw [h]
theorem wd_arr {G : Gh} {σ : St} {k t n j : Nat} {v : Int} {X : Int32} (h : tb k = .inl (t, n)) (hX : X = Int32.ofInt v) : (wd G σ).set k (ad G k, .inl (gC G t, n, .inl (upd (fun j => Int32.ofInt (σ k j)) j X))) = wd G (up σ k j v) := by
  refine wd_set (tb_lt h) ?_ ent_out
  rw [ent_arr h, hX]
  congr 4
  funext z
  unfold upd up
  by_cases hz : z = j <;> simp [hz]
theorem wd_fld {G : Gh} {σ : St} {k ci j : Nat} {fl : List (Option Nat)} {v : Int} (h : tb k = .inr (ci, fl)) (hc : ci < 6) (hj : fl[j]? = some none) : (wd G σ).set k (ad G k, .inr (ci, (fv G σ k 0 fl).set j (vi v))) = wd G (up σ k j v) := by
  refine wd_set (tb_lt' h hc) ?_ ent_out
  rw [ent_obj h, fv_set G σ k v fl 0 j hj]
  simp
end
section
/-! ===== the context, the judgement SW, a rule an instruction ===== -/
def TB : List Cond := lw_tbl.filter goodWord
theorem mTB {w : Cond} (h : w ∈ lw_tbl) (hg : goodWord w = true) : w ∈ TB := List.mem_filter.mpr ⟨h, hg⟩
theorem tb_at {w : Cond} (i : Nat) (h : lw_tbl[i]? = some w) (hg : goodWord w = true) : w ∈ TB := mTB (List.mem_of_getElem? h) hg
/-- what holds at every state: the classes, the cells apart, the nest's links -/
def KG (G : Gh) (U : State) : Prop := va_K (gD G) vwCl (gT G) U ∧ (∀ i j : Nat, i < 63 → j < 63 → ad G i = ad G j → i = j) ∧ va_Nw (.methodLinkNest "HorseSigns$Square" 73 yX4_reading "HorseSigns") U ∧ va_Nw (.methodLinkNest "HorseSigns$Square" 77 yX4_legsDown "HorseSigns") U
theorem KG.warm {G : Gh} {s U : State} (hW : s.WarmedH U.vm) (h : KG G s) : KG G U := ⟨va_K.moved hW.alike h.1, h.2.1, va_Nw.warmM hW h.2.2.1, va_Nw.warmM hW h.2.2.2⟩
theorem KG.same {G : Gh} {u U : State} (hv : u.vm = U.vm) (h : KG G u) : KG G U := ⟨va_K.moved (by rw [hv]; exact Vm.Alike.refl U.vm) h.1, h.2.1, va_Nw.same rfl hv h.2.2.1, va_Nw.same rfl hv h.2.2.2⟩
theorem KG.D {G : Gh} {U : State} (h : KG G U) (σ : St) : va_D (AD G) (wd G σ) := by
  have at' : ∀ (i : Nat) (p : Nat × va_E), (wd G σ)[i]? = some p → i < 63 ∧ p.1 = ad G i := by
    intro i p hp
    have hl : i < 63 := by
      have := (List.getElem?_eq_some_iff.mp hp).1
      simpa [wd] using this
    rw [wd_get G σ hl] at hp
    cases hp
    exact ⟨hl, rfl⟩
  refine ⟨fun i j p q hp hq e => ?_, fun k q hq => ?_⟩
  · obtain ⟨a1, a2⟩ := at' i p hp
    obtain ⟨b1, b2⟩ := at' j q hq
    exact h.2.1 i j a1 b1 (by rw [← a2, ← b2, e])
  · obtain ⟨a1, a2⟩ := at' k q hq
    exact ⟨k, a1, a2⟩
def Cx (G : Gh) (own : String) (cc : ByteArray) (nL : Nat) (p : Program) (s : State) (m : MethodId) (args : Array Value) (c : Code) : Prop :=
  CallFix p m c cc nL s args TB own ∧ KG G s
def WD (G : Gh) (σ : St) (H0 H : Heap) (locs : List Loc) : Prop := va_P (gD G) vwCl (wd G σ) H ∧ va_S (AD G) H0 H locs
/-- locals: a place each, none where nothing is known -/
def lvO : Nat → List (Option Value) → List (Nat × Value)
  | _, [] => []
  | i, none :: L => lvO (i + 1) L
  | i, some v :: L => (i, v) :: lvO (i + 1) L
theorem lvO_mem (L : List (Option Value)) : ∀ (i0 i : Nat) (v : Value), (i, v) ∈ lvO i0 L ↔ ∃ k, i = i0 + k ∧ L[k]? = some (some v) := by
  induction L with
  | nil => intro i0 i v; simp [lvO]
  | cons a L ih =>
    intro i0 i v
    cases a with
    | none =>
      simp only [lvO]
      rw [ih]
      constructor
      · rintro ⟨k, h1, h2⟩
        exact ⟨k + 1, by omega, by simpa using h2⟩
      · rintro ⟨k, h1, h2⟩
        cases k with
        | zero => simp at h2
        | succ k => exact ⟨k, by omega, by simpa using h2⟩
    | some u =>
      simp only [lvO, List.mem_cons]
      rw [ih]
      constructor
      · rintro (h | ⟨k, h1, h2⟩)
        · cases h
          exact ⟨0, by omega, rfl⟩
        · exact ⟨k + 1, by omega, by simpa using h2⟩
      · rintro ⟨k, h1, h2⟩
        cases k with
        | zero =>
          simp at h2
          left
          rw [h1, h2]
          rfl
        | succ k => exact Or.inr ⟨k, by omega, by simpa using h2⟩
theorem lvO_at {ls : Array Slot} {nL : Nat} {L : List (Option Value)} {i : Nat} {v : Value} (h : lv_has ls nL (lvO 0 L)) (hi : L[i]? = some (some v)) : ls[i]? = some (.val v) :=
  h.2.2 (i, v) ((lvO_mem L 0 i v).mpr ⟨i, by omega, hi⟩)
theorem lvO_sub {ls : Array Slot} {nL : Nat} {l : List (Nat × Value)} {L : List (Option Value)} (h : lv_has ls nL l) (hs : ∀ (i : Nat) (v : Value), L[i]? = some (some v) → (i, v) ∈ l) : lv_has ls nL (lvO 0 L) := by
  refine ⟨h.1, h.2.1, fun q hq => ?_⟩
  obtain ⟨k, h1, h2⟩ := (lvO_mem L 0 q.1 q.2).mp hq
  exact h.2.2 q (by have := hs k q.2 h2; rw [Nat.zero_add] at h1; rw [← h1] at this; exact this)
/-- may a number be put at i: what is at i - 1 isn't a long -/
def okS (L : List (Option Value)) (i : Nat) : Bool := match i with
  | 0 => true
  | i + 1 => match L[i]? with
    | some (some u) => u.category == 1
    | _ => true
theorem lvO_store {ls : Array Slot} {nL : Nat} {L : List (Option Value)} {i : Nat} {v : Value} (ho : okS L i = true) (h : lv_has ls nL ((i, v) :: (lvO 0 L).filter (fun q => !(q.1 == i) && !(q.1 + 1 == i && q.2.category == 2)))) : lv_has ls nL (lvO 0 (L.set i (some v))) := by
  refine lvO_sub h (fun j u hj => ?_)
  rw [List.getElem?_set] at hj
  by_cases he : i = j
  · subst he
    rw [if_pos rfl] at hj
    split at hj
    · cases hj
      exact List.mem_cons_self
    · cases hj
  · rw [if_neg he] at hj
    refine List.mem_cons_of_mem _ (List.mem_filter.mpr ⟨(lvO_mem L 0 j u).mpr ⟨j, by omega, hj⟩, ?_⟩)
    have e1 : (j == i) = false := by simpa using fun e => he e.symm
    by_cases h2 : j + 1 = i
    · subst h2
      simp only [okS, hj] at ho
      have : u.category = 1 := by simpa using ho
      simp [e1, this]
    · simp [e1, h2]
theorem lvO_store2 {ls : Array Slot} {nL : Nat} {L : List (Option Value)} {i : Nat} {v : Value} (ho : okS L i = true) (h : lv_has ls nL ((i, v) :: (lvO 0 L).filter (fun q => !(q.1 == i) && (!(q.1 == i + 1) && !(q.1 + 1 == i && q.2.category == 2))))) : lv_has ls nL (lvO 0 ((L.set i (some v)).set (i + 1) none)) := by
  refine lvO_sub h (fun j u hj => ?_)
  rw [List.getElem?_set] at hj
  by_cases he1 : i + 1 = j
  · rw [if_pos he1] at hj
    split at hj <;> cases hj
  rw [if_neg he1, List.getElem?_set] at hj
  by_cases he : i = j
  · subst he
    rw [if_pos rfl] at hj
    split at hj
    · cases hj
      exact List.mem_cons_self
    · cases hj
  · rw [if_neg he] at hj
    refine List.mem_cons_of_mem _ (List.mem_filter.mpr ⟨(lvO_mem L 0 j u).mpr ⟨j, by omega, hj⟩, ?_⟩)
    have e1 : (j == i) = false := by simpa using fun e => he e.symm
    have e3 : (j == i + 1) = false := by simpa using fun e => he1 e.symm
    by_cases h2 : j + 1 = i
    · subst h2
      simp only [okS, hj] at ho
      have : u.category = 1 := by simpa using ho
      simp [e1, e3, this]
    · simp [e1, e3, h2]
def rIn (v : Option Value) : Instr := match v with
  | none => .return_
  | some (.int _) => .ireturn
  | some (.long _) => .lreturn
  | some _ => .areturn
/-- from this state of a method's frame, if the function says some r, the machine comes to r's answer and cells -/
def SW (G : Gh) (l : Launch) (own : String) (cc : ByteArray) (nL : Nat) (rm : Room) {ρ : Type} (w : ρ → Option Value × St) (pc : Nat) (L : List (Option Value)) (st : List Value) (σ : St) (o : Option ρ) : Prop :=
  ∀ r, o = some r → ∀ (p : Program) (e : Env) (s : State) (m : MethodId) (args : Array Value) (below : List Frame) (meth : Method) (c : Code) (H : Heap) (locs : List Loc) (cells slots : Nat) (Q : State → Prop) (ls : Array Slot),
    Cx G own cc nL p s m args c → WD G σ s.heap H locs → lv_has ls nL (lvO 0 L) → (cells ≤ rm.cells ∧ slots ≤ rm.slots) →
    (∀ (H' : Heap) (locs' : List Loc) (pc' : Nat) (ls' : Array Slot), WD G (w r).2 s.heap H' locs' → decode cc pc' = .ok (rIn (w r).1, 1) → W p l e rm s m args below meth c H' locs' cells slots Q (F0 m pc' ls' (w r).1.toList)) →
    W p l e rm s m args below meth c H locs cells slots Q (F0 m pc ls st)
section SWR
variable {G : Gh} {l : Launch} {own : String} {cc : ByteArray} {nL : Nat} {rm : Room} {ρ : Type} {w : ρ → Option Value × St} {pc pc' : Nat} {L : List (Option Value)} {st : List Value} {σ : St} {o : Option ρ}
theorem sw_none : SW G l own cc nL rm w pc L st σ none := fun r h => by cases h
theorem sw_iconst {n : Int} (hd : decode cc pc = .ok (.iconst n, 1)) (hp : pc' = pc + 1) (k : SW G l own cc nL rm w pc' L (vi n :: st) σ o) : SW G l own cc nL rm w pc L st σ o := by
  subst hp
  intro r hr p e s m args below meth c H locs cells slots Q ls hC hW hl hcs hR
  exact lv_iconst hC.1.1 hC.1.2.1 hd rfl (k r hr p e s m args below meth c H locs cells slots Q ls hC hW hl hcs hR)
theorem sw_bipush {n : Int} (hd : decode cc pc = .ok (.bipush n, 2)) (hn : (Int8.ofInt n).toInt32 = Int32.ofInt n) (hp : pc' = pc + 2) (k : SW G l own cc nL rm w pc' L (vi n :: st) σ o) : SW G l own cc nL rm w pc L st σ o := by
  subst hp
  intro r hr p e s m args below meth c H locs cells slots Q ls hC hW hl hcs hR
  exact lv_bipush hC.1.1 hC.1.2.1 hd hn (k r hr p e s m args below meth c H locs cells slots Q ls hC hW hl hcs hR)
theorem sw_sipush {n : Int} (hd : decode cc pc = .ok (.sipush n, 3)) (hn : (Int16.ofInt n).toInt32 = Int32.ofInt n) (hp : pc' = pc + 3) (k : SW G l own cc nL rm w pc' L (vi n :: st) σ o) : SW G l own cc nL rm w pc L st σ o := by
  subst hp
  intro r hr p e s m args below meth c H locs cells slots Q ls hC hW hl hcs hR
  exact lv_sipush hC.1.1 hC.1.2.1 hd hn (k r hr p e s m args below meth c H locs cells slots Q ls hC hW hl hcs hR)
theorem sw_lconst {n : Fin 2} {x : Int} (hd : decode cc pc = .ok (.lconst n, 1)) (hn : Int64.ofNat (n : Nat) = Int64.ofInt x) (hp : pc' = pc + 1) (k : SW G l own cc nL rm w pc' L (vl x :: st) σ o) : SW G l own cc nL rm w pc L st σ o := by
  subst hp
  intro r hr p e s m args below meth c H locs cells slots Q ls hC hW hl hcs hR
  exact lv_lconst hC.1.1 hC.1.2.1 hd hn (k r hr p e s m args below meth c H locs cells slots Q ls hC hW hl hcs hR)
theorem sw_ldc {n : Int} {i : Nat} (hd : decode cc pc = .ok (.ldc i, 2)) (hc : Cond.constant own i (Int32.ofInt n) ∈ TB) (hp : pc' = pc + 2) (k : SW G l own cc nL rm w pc' L (vi n :: st) σ o) : SW G l own cc nL rm w pc L st σ o := by
  subst hp
  intro r hr p e s m args below meth c H locs cells slots Q ls hC hW hl hcs hR
  exact lv_ldc hC.1.1 hC.1.2.1 hC.1.2.2.2.1 (hC.1.2.2.2.2 _ hc) hd (k r hr p e s m args below meth c H locs cells slots Q ls hC hW hl hcs hR)
theorem sw_ldcw {n : Int} {i : Nat} (hd : decode cc pc = .ok (.ldc_w i, 3)) (hc : Cond.constant own i (Int32.ofInt n) ∈ TB) (hp : pc' = pc + 3) (k : SW G l own cc nL rm w pc' L (vi n :: st) σ o) : SW G l own cc nL rm w pc L st σ o := by
  subst hp
  intro r hr p e s m args below meth c H locs cells slots Q ls hC hW hl hcs hR
  exact lv_ldcw hC.1.1 hC.1.2.1 hC.1.2.2.2.1 (hC.1.2.2.2.2 _ hc) hd (k r hr p e s m args below meth c H locs cells slots Q ls hC hW hl hcs hR)
theorem sw_ldc2 {n : Int} {i : Nat} (hd : decode cc pc = .ok (.ldc2_w i, 3)) (hc : Cond.constantLong own i (Int64.ofInt n) ∈ TB) (hp : pc' = pc + 3) (k : SW G l own cc nL rm w pc' L (vl n :: st) σ o) : SW G l own cc nL rm w pc L st σ o := by
  subst hp
  intro r hr p e s m args below meth c H locs cells slots Q ls hC hW hl hcs hR
  exact lv_ldc2 hC.1.1 hC.1.2.1 hC.1.2.2.2.1 (hC.1.2.2.2.2 _ hc) hd (k r hr p e s m args below meth c H locs cells slots Q ls hC hW hl hcs hR)
theorem sw_iload_n {i : Fin 4} {x : Int} (hd : decode cc pc = .ok (.iload_n i, 1)) (hp : pc' = pc + 1) (hx : L[(i : Nat)]? = some (some (vi x))) (k : SW G l own cc nL rm w pc' L (vi x :: st) σ o) : SW G l own cc nL rm w pc L st σ o := by
  subst hp
  intro r hr p e s m args below meth c H locs cells slots Q ls hC hW hl hcs hR
  exact lv_iload_n hC.1.1 hC.1.2.1 hd rfl (lvO_at hl hx) (k r hr p e s m args below meth c H locs cells slots Q ls hC hW hl hcs hR)
theorem sw_iload {i : Nat} {x : Int} (hd : decode cc pc = .ok (.iload i, 2)) (hp : pc' = pc + 2) (hx : L[i]? = some (some (vi x))) (k : SW G l own cc nL rm w pc' L (vi x :: st) σ o) : SW G l own cc nL rm w pc L st σ o := by
  subst hp
  intro r hr p e s m args below meth c H locs cells slots Q ls hC hW hl hcs hR
  exact lv_iload hC.1.1 hC.1.2.1 hd (lvO_at hl hx) (k r hr p e s m args below meth c H locs cells slots Q ls hC hW hl hcs hR)
theorem sw_lload_n {i : Fin 4} {x : Int} (hd : decode cc pc = .ok (.lload_n i, 1)) (hp : pc' = pc + 1) (hx : L[(i : Nat)]? = some (some (vl x))) (k : SW G l own cc nL rm w pc' L (vl x :: st) σ o) : SW G l own cc nL rm w pc L st σ o := by
  subst hp
  intro r hr p e s m args below meth c H locs cells slots Q ls hC hW hl hcs hR
  exact lv_lload_n hC.1.1 hC.1.2.1 hd rfl (lvO_at hl hx) (k r hr p e s m args below meth c H locs cells slots Q ls hC hW hl hcs hR)
theorem sw_lload {i : Nat} {x : Int} (hd : decode cc pc = .ok (.lload i, 2)) (hp : pc' = pc + 2) (hx : L[i]? = some (some (vl x))) (k : SW G l own cc nL rm w pc' L (vl x :: st) σ o) : SW G l own cc nL rm w pc L st σ o := by
  subst hp
  intro r hr p e s m args below meth c H locs cells slots Q ls hC hW hl hcs hR
  exact lv_lload hC.1.1 hC.1.2.1 hd (lvO_at hl hx) (k r hr p e s m args below meth c H locs cells slots Q ls hC hW hl hcs hR)
theorem sw_aload_n {i : Fin 4} {x : Nat} (hd : decode cc pc = .ok (.aload_n i, 1)) (hp : pc' = pc + 1) (hx : L[(i : Nat)]? = some (some (.ref x))) (k : SW G l own cc nL rm w pc' L (.ref x :: st) σ o) : SW G l own cc nL rm w pc L st σ o := by
  subst hp
  intro r hr p e s m args below meth c H locs cells slots Q ls hC hW hl hcs hR
  exact lv_aload_n hC.1.1 hC.1.2.1 hd rfl (lvO_at hl hx) (k r hr p e s m args below meth c H locs cells slots Q ls hC hW hl hcs hR)
theorem sw_istore_n {i : Fin 4} {x : Int} {L' : List (Option Value)} (hd : decode cc pc = .ok (.istore_n i, 1)) (hp : pc' = pc + 1) (hi : (i : Nat) < nL) (ho : okS L i = true) (hL : L.set i (some (vi x)) = L') (k : SW G l own cc nL rm w pc' L' st σ o) : SW G l own cc nL rm w pc L (vi x :: st) σ o := by
  subst hp
  subst hL
  intro r hr p e s m args below meth c H locs cells slots Q ls hC hW hl hcs hR
  exact lv_istore_n hC.1.1 hC.1.2.1 hd rfl hl hi rfl (fun ls' hl' => k r hr p e s m args below meth c H locs cells slots Q ls' hC hW (lvO_store ho hl') hcs hR)
theorem sw_istore {i : Nat} {x : Int} {L' : List (Option Value)} (hd : decode cc pc = .ok (.istore i, 2)) (hp : pc' = pc + 2) (hi : i < nL) (ho : okS L i = true) (hL : L.set i (some (vi x)) = L') (k : SW G l own cc nL rm w pc' L' st σ o) : SW G l own cc nL rm w pc L (vi x :: st) σ o := by
  subst hp
  subst hL
  intro r hr p e s m args below meth c H locs cells slots Q ls hC hW hl hcs hR
  exact lv_istore hC.1.1 hC.1.2.1 hd hl hi rfl (fun ls' hl' => k r hr p e s m args below meth c H locs cells slots Q ls' hC hW (lvO_store ho hl') hcs hR)
theorem sw_lstore_n {i : Fin 4} {x : Int} {L' : List (Option Value)} (hd : decode cc pc = .ok (.lstore_n i, 1)) (hp : pc' = pc + 1) (hi : (i : Nat) + 1 < nL) (ho : okS L i = true) (hL : (L.set i (some (vl x))).set (i + 1) none = L') (k : SW G l own cc nL rm w pc' L' st σ o) : SW G l own cc nL rm w pc L (vl x :: st) σ o := by
  subst hp
  subst hL
  intro r hr p e s m args below meth c H locs cells slots Q ls hC hW hl hcs hR
  exact lv_lstore_n hC.1.1 hC.1.2.1 hd rfl hl hi rfl (fun ls' hl' => k r hr p e s m args below meth c H locs cells slots Q ls' hC hW (lvO_store2 ho hl') hcs hR)
theorem sw_lstore {i : Nat} {x : Int} {L' : List (Option Value)} (hd : decode cc pc = .ok (.lstore i, 2)) (hp : pc' = pc + 2) (hi : i + 1 < nL) (ho : okS L i = true) (hL : (L.set i (some (vl x))).set (i + 1) none = L') (k : SW G l own cc nL rm w pc' L' st σ o) : SW G l own cc nL rm w pc L (vl x :: st) σ o := by
  subst hp
  subst hL
  intro r hr p e s m args below meth c H locs cells slots Q ls hC hW hl hcs hR
  exact lv_lstore hC.1.1 hC.1.2.1 hd hl hi rfl (fun ls' hl' => k r hr p e s m args below meth c H locs cells slots Q ls' hC hW (lvO_store2 ho hl') hcs hR)
theorem sw_iinc {i : Nat} {n x : Int} {L' : List (Option Value)} (hd : decode cc pc = .ok (.iinc i n, 3)) (hp : pc' = pc + 3) (hi : i < nL) (ho : okS L i = true) (hx : L[i]? = some (some (vi x))) (hL : L.set i (some (vi (x + n))) = L') (k : SW G l own cc nL rm w pc' L' st σ o) : SW G l own cc nL rm w pc L st σ o := by
  subst hp
  subst hL
  intro r hr p e s m args below meth c H locs cells slots Q ls hC hW hl hcs hR
  have hm : (i, vi x) ∈ lvO 0 L := (lvO_mem L 0 i (vi x)).mpr ⟨i, by omega, hx⟩
  obtain ⟨k0, hk0⟩ := List.getElem?_of_mem hm
  exact lv_iinc (v := Int32.ofInt (x + n)) hC.1.1 hC.1.2.1 hd hl hk0 (by rw [Int32.ofInt_add]) hi rfl (fun ls' hl' => k r hr p e s m args below meth c H locs cells slots Q ls' hC hW (lvO_store ho hl') hcs hR)
/-- fewer locals -/
def msk : List Bool → List (Option Value) → List (Option Value)
  | [], L => L
  | _, [] => []
  | b :: bs, v :: L => (if b then v else none) :: msk bs L
theorem msk_at : ∀ (bs : List Bool) (L : List (Option Value)) (i : Nat) (v : Value), (msk bs L)[i]? = some (some v) → L[i]? = some (some v) := by
  intro bs
  induction bs with
  | nil => intro L i v h; cases L <;> exact h
  | cons b bs ih =>
    intro L i v h
    cases L with
    | nil => exact h
    | cons a L =>
      cases i with
      | zero =>
        cases b with
        | true => exact h
        | false => simp [msk] at h
      | succ i =>
        have h1 : (msk bs L)[i]? = some (some v) := by simpa [msk] using h
        simpa using ih L i v h1
theorem sw_msk (bs : List Bool) {L' : List (Option Value)} (hL : msk bs L = L') (k : SW G l own cc nL rm w pc L' st σ o) : SW G l own cc nL rm w pc L st σ o := by
  subst hL
  intro r hr p e s m args below meth c H locs cells slots Q ls hC hW hl hcs hR
  exact k r hr p e s m args below meth c H locs cells slots Q ls hC hW (lvO_sub hl (fun i v h => (lvO_mem L 0 i v).mpr ⟨i, by omega, msk_at bs L i v h⟩)) hcs hR
theorem sw_iadd {x y : Int} (hd : decode cc pc = .ok (.iadd, 1)) (hp : pc' = pc + 1) (k : SW G l own cc nL rm w pc' L (vi (x + y) :: st) σ o) : SW G l own cc nL rm w pc L (vi y :: vi x :: st) σ o := by
  subst hp
  intro r hr p e s m args below meth c H locs cells slots Q ls hC hW hl hcs hR
  have h := k r hr p e s m args below meth c H locs cells slots Q ls hC hW hl hcs hR
  unfold vi at h
  rw [Int32.ofInt_add] at h
  exact lv_iadd hC.1.1 hC.1.2.1 hd h
theorem sw_isub {x y : Int} (hd : decode cc pc = .ok (.isub, 1)) (hp : pc' = pc + 1) (k : SW G l own cc nL rm w pc' L (vi (x - y) :: st) σ o) : SW G l own cc nL rm w pc L (vi y :: vi x :: st) σ o := by
  subst hp
  intro r hr p e s m args below meth c H locs cells slots Q ls hC hW hl hcs hR
  have h := k r hr p e s m args below meth c H locs cells slots Q ls hC hW hl hcs hR
  unfold vi at h
  rw [Int32.ofInt_sub] at h
  exact lv_isub hC.1.1 hC.1.2.1 hd h
theorem sw_imul {x y : Int} (hd : decode cc pc = .ok (.imul, 1)) (hp : pc' = pc + 1) (k : SW G l own cc nL rm w pc' L (vi (x * y) :: st) σ o) : SW G l own cc nL rm w pc L (vi y :: vi x :: st) σ o := by
  subst hp
  intro r hr p e s m args below meth c H locs cells slots Q ls hC hW hl hcs hR
  have h := k r hr p e s m args below meth c H locs cells slots Q ls hC hW hl hcs hR
  unfold vi at h
  rw [Int32.ofInt_mul] at h
  exact lv_imul hC.1.1 hC.1.2.1 hd h
theorem sw_ladd {x y : Int} (hd : decode cc pc = .ok (.ladd, 1)) (hp : pc' = pc + 1) (k : SW G l own cc nL rm w pc' L (vl (x + y) :: st) σ o) : SW G l own cc nL rm w pc L (vl y :: vl x :: st) σ o := by
  subst hp
  intro r hr p e s m args below meth c H locs cells slots Q ls hC hW hl hcs hR
  have h := k r hr p e s m args below meth c H locs cells slots Q ls hC hW hl hcs hR
  unfold vl at h
  rw [Int64.ofInt_add] at h
  exact lv_ladd hC.1.1 hC.1.2.1 hd h
theorem sw_lmul {x y : Int} (hd : decode cc pc = .ok (.lmul, 1)) (hp : pc' = pc + 1) (k : SW G l own cc nL rm w pc' L (vl (x * y) :: st) σ o) : SW G l own cc nL rm w pc L (vl y :: vl x :: st) σ o := by
  subst hp
  intro r hr p e s m args below meth c H locs cells slots Q ls hC hW hl hcs hR
  have h := k r hr p e s m args below meth c H locs cells slots Q ls hC hW hl hcs hR
  unfold vl at h
  rw [Int64.ofInt_mul] at h
  exact lv_lmul hC.1.1 hC.1.2.1 hd h
theorem sw_ineg {x : Int} (hd : decode cc pc = .ok (.ineg, 1)) (hp : pc' = pc + 1) (k : SW G l own cc nL rm w pc' L (vi (0 - x) :: st) σ o) : SW G l own cc nL rm w pc L (vi x :: st) σ o := by
  subst hp
  intro r hr p e s m args below meth c H locs cells slots Q ls hC hW hl hcs hR
  have h := k r hr p e s m args below meth c H locs cells slots Q ls hC hW hl hcs hR
  unfold vi at h
  rw [Int32.ofInt_sub] at h
  exact lv_ineg hC.1.1 hC.1.2.1 hd (by first | exact h | simpa using h)
theorem sw_iand {x y : Int} (hd : decode cc pc = .ok (.iand, 1)) (hp : pc' = pc + 1) (k : SW G l own cc nL rm w pc' L (vi (iad x y) :: st) σ o) : SW G l own cc nL rm w pc L (vi y :: vi x :: st) σ o := by
  subst hp
  intro r hr p e s m args below meth c H locs cells slots Q ls hC hW hl hcs hR
  have h := k r hr p e s m args below meth c H locs cells slots Q ls hC hW hl hcs hR
  unfold iad at h
  rw [vi_toInt] at h
  exact lv_iand hC.1.1 hC.1.2.1 hd h
theorem sw_ior {x y : Int} (hd : decode cc pc = .ok (.ior, 1)) (hp : pc' = pc + 1) (k : SW G l own cc nL rm w pc' L (vi (iod x y) :: st) σ o) : SW G l own cc nL rm w pc L (vi y :: vi x :: st) σ o := by
  subst hp
  intro r hr p e s m args below meth c H locs cells slots Q ls hC hW hl hcs hR
  have h := k r hr p e s m args below meth c H locs cells slots Q ls hC hW hl hcs hR
  unfold iod at h
  rw [vi_toInt] at h
  exact lv_ior hC.1.1 hC.1.2.1 hd h
theorem sw_ixor {x y : Int} (hd : decode cc pc = .ok (.ixor, 1)) (hp : pc' = pc + 1) (k : SW G l own cc nL rm w pc' L (vi (ixd x y) :: st) σ o) : SW G l own cc nL rm w pc L (vi y :: vi x :: st) σ o := by
  subst hp
  intro r hr p e s m args below meth c H locs cells slots Q ls hC hW hl hcs hR
  have h := k r hr p e s m args below meth c H locs cells slots Q ls hC hW hl hcs hR
  unfold ixd at h
  rw [vi_toInt] at h
  exact lv_ixor hC.1.1 hC.1.2.1 hd h
theorem sw_ishl {x y : Int} (hd : decode cc pc = .ok (.ishl, 1)) (hp : pc' = pc + 1) (k : SW G l own cc nL rm w pc' L (vi (isl x y) :: st) σ o) : SW G l own cc nL rm w pc L (vi y :: vi x :: st) σ o := by
  subst hp
  intro r hr p e s m args below meth c H locs cells slots Q ls hC hW hl hcs hR
  have h := k r hr p e s m args below meth c H locs cells slots Q ls hC hW hl hcs hR
  unfold isl at h
  rw [vi_toInt] at h
  exact lv_ishl hC.1.1 hC.1.2.1 hd h
theorem sw_ishr {x y : Int} (hd : decode cc pc = .ok (.ishr, 1)) (hp : pc' = pc + 1) (k : SW G l own cc nL rm w pc' L (vi (isr x y) :: st) σ o) : SW G l own cc nL rm w pc L (vi y :: vi x :: st) σ o := by
  subst hp
  intro r hr p e s m args below meth c H locs cells slots Q ls hC hW hl hcs hR
  have h := k r hr p e s m args below meth c H locs cells slots Q ls hC hW hl hcs hR
  unfold isr at h
  rw [vi_toInt] at h
  exact lv_ishr hC.1.1 hC.1.2.1 hd h
theorem sw_iushr {x y : Int} (hd : decode cc pc = .ok (.iushr, 1)) (hp : pc' = pc + 1) (k : SW G l own cc nL rm w pc' L (vi (ius x y) :: st) σ o) : SW G l own cc nL rm w pc L (vi y :: vi x :: st) σ o := by
  subst hp
  intro r hr p e s m args below meth c H locs cells slots Q ls hC hW hl hcs hR
  have h := k r hr p e s m args below meth c H locs cells slots Q ls hC hW hl hcs hR
  unfold ius at h
  rw [vi_toInt] at h
  exact lv_iushr hC.1.1 hC.1.2.1 hd rfl h
theorem sw_i2b {x : Int} (hd : decode cc pc = .ok (.i2b, 1)) (hp : pc' = pc + 1) (k : SW G l own cc nL rm w pc' L (vi (nby x) :: st) σ o) : SW G l own cc nL rm w pc L (vi x :: st) σ o := by
  subst hp
  intro r hr p e s m args below meth c H locs cells slots Q ls hC hW hl hcs hR
  have h := k r hr p e s m args below meth c H locs cells slots Q ls hC hW hl hcs hR
  unfold nby at h
  rw [vi_toInt] at h
  exact lv_i2b hC.1.1 hC.1.2.1 hd rfl h
theorem sw_i2s {x : Int} (hd : decode cc pc = .ok (.i2s, 1)) (hp : pc' = pc + 1) (k : SW G l own cc nL rm w pc' L (vi (nsh x) :: st) σ o) : SW G l own cc nL rm w pc L (vi x :: st) σ o := by
  subst hp
  intro r hr p e s m args below meth c H locs cells slots Q ls hC hW hl hcs hR
  have h := k r hr p e s m args below meth c H locs cells slots Q ls hC hW hl hcs hR
  unfold nsh at h
  rw [vi_toInt] at h
  exact lv_i2s hC.1.1 hC.1.2.1 hd rfl h
theorem sw_i2c {x : Int} (hd : decode cc pc = .ok (.i2c, 1)) (hp : pc' = pc + 1) (k : SW G l own cc nL rm w pc' L (vi (nch x) :: st) σ o) : SW G l own cc nL rm w pc L (vi x :: st) σ o := by
  subst hp
  intro r hr p e s m args below meth c H locs cells slots Q ls hC hW hl hcs hR
  have h := k r hr p e s m args below meth c H locs cells slots Q ls hC hW hl hcs hR
  unfold nch at h
  rw [vi_toInt] at h
  exact lv_i2c hC.1.1 hC.1.2.1 hd rfl h
theorem sw_i2l {x : Int} (hd : decode cc pc = .ok (.i2l, 1)) (hp : pc' = pc + 1) (k : SW G l own cc nL rm w pc' L (vl (wr x) :: st) σ o) : SW G l own cc nL rm w pc L (vi x :: st) σ o := by
  subst hp
  intro r hr p e s m args below meth c H locs cells slots Q ls hC hW hl hcs hR
  have h := k r hr p e s m args below meth c H locs cells slots Q ls hC hW hl hcs hR
  refine lv_i2l (v := Int64.ofInt (wr x)) hC.1.1 hC.1.2.1 hd ?_ h
  apply Int64.toInt_inj.mp
  rw [Int32.toInt_toInt64, Int64.toInt_ofInt]
  have h1 := wr_ge x
  have h2 := wr_le x
  show wr x = Int.bmod (wr x) 18446744073709551616
  exact (Int.bmod_eq_of_le (by omega) (by omega)).symm
theorem sw_idiv {x y : Int} {kf : Int → Option ρ} (hd : decode cc pc = .ok (.idiv, 1)) (hp : pc' = pc + 1) (k : ∀ v, SW G l own cc nL rm w pc' L (vi v :: st) σ (kf v)) : SW G l own cc nL rm w pc L (vi y :: vi x :: st) σ (bV (idv x y) kf) := by
  subst hp
  intro r hr p e s m args below meth c H locs cells slots Q ls hC hW hl hcs hR
  unfold idv at hr
  by_cases hz : wr y = 0
  · rw [if_pos hz] at hr; cases hr
  rw [if_neg hz] at hr
  have h := k _ r hr p e s m args below meth c H locs cells slots Q ls hC hW hl hcs hR
  rw [vi_toInt] at h
  exact lv_idiv hC.1.1 hC.1.2.1 hd (fun e => hz (by unfold wr; rw [e]; rfl)) h
theorem sw_irem {x y : Int} {kf : Int → Option ρ} (hd : decode cc pc = .ok (.irem, 1)) (hp : pc' = pc + 1) (k : ∀ v, SW G l own cc nL rm w pc' L (vi v :: st) σ (kf v)) : SW G l own cc nL rm w pc L (vi y :: vi x :: st) σ (bV (irm x y) kf) := by
  subst hp
  intro r hr p e s m args below meth c H locs cells slots Q ls hC hW hl hcs hR
  unfold irm at hr
  by_cases hz : wr y = 0
  · rw [if_pos hz] at hr; cases hr
  rw [if_neg hz] at hr
  have h := k _ r hr p e s m args below meth c H locs cells slots Q ls hC hW hl hcs hR
  rw [vi_toInt] at h
  exact lv_irem hC.1.1 hC.1.2.1 hd (fun e => hz (by unfold wr; rw [e]; rfl)) h
theorem sw_ldiv {x y : Int} {kf : Int → Option ρ} (hd : decode cc pc = .ok (.ldiv, 1)) (hp : pc' = pc + 1) (k : ∀ v, SW G l own cc nL rm w pc' L (vl v :: st) σ (kf v)) : SW G l own cc nL rm w pc L (vl y :: vl x :: st) σ (bV (ldv x y) kf) := by
  subst hp
  intro r hr p e s m args below meth c H locs cells slots Q ls hC hW hl hcs hR
  unfold ldv at hr
  by_cases hz : wl y = 0
  · rw [if_pos hz] at hr; cases hr
  rw [if_neg hz] at hr
  have h := k _ r hr p e s m args below meth c H locs cells slots Q ls hC hW hl hcs hR
  rw [vl_toInt] at h
  exact lv_ldiv hC.1.1 hC.1.2.1 hd (fun e => hz (by unfold wl; rw [e]; rfl)) h
theorem sw_lrem {x y : Int} {kf : Int → Option ρ} (hd : decode cc pc = .ok (.lrem, 1)) (hp : pc' = pc + 1) (k : ∀ v, SW G l own cc nL rm w pc' L (vl v :: st) σ (kf v)) : SW G l own cc nL rm w pc L (vl y :: vl x :: st) σ (bV (lrm x y) kf) := by
  subst hp
  intro r hr p e s m args below meth c H locs cells slots Q ls hC hW hl hcs hR
  unfold lrm at hr
  by_cases hz : wl y = 0
  · rw [if_pos hz] at hr; cases hr
  rw [if_neg hz] at hr
  have h := k _ r hr p e s m args below meth c H locs cells slots Q ls hC hW hl hcs hR
  rw [vl_toInt] at h
  exact lv_lrem hC.1.1 hC.1.2.1 hd (fun e => hz (by unfold wl; rw [e]; rfl)) h
theorem lcm_eq (x y : Int) : Int32.ofInt (lcm x y) = lg_cmp (Int64.ofInt x) (Int64.ofInt y) := by
  unfold lcm lg_cmp wl
  by_cases h1 : (Int64.ofInt y).toInt < (Int64.ofInt x).toInt
  · rw [if_pos h1, if_pos (Int64.lt_iff_toInt_lt.mpr h1)]
    rfl
  · rw [if_neg h1, if_neg (fun e => h1 (Int64.lt_iff_toInt_lt.mp e))]
    by_cases h2 : (Int64.ofInt x).toInt = (Int64.ofInt y).toInt
    · rw [if_pos h2, if_pos (Int64.toInt_inj.mp h2)]
      rfl
    · rw [if_neg h2, if_neg (fun e => h2 (by rw [e]))]
      rfl
theorem sw_lcmp {x y : Int} (hd : decode cc pc = .ok (.lcmp, 1)) (hp : pc' = pc + 1) (k : SW G l own cc nL rm w pc' L (vi (lcm x y) :: st) σ o) : SW G l own cc nL rm w pc L (vl y :: vl x :: st) σ o := by
  subst hp
  intro r hr p e s m args below meth c H locs cells slots Q ls hC hW hl hcs hR
  have h := k r hr p e s m args below meth c H locs cells slots Q ls hC hW hl hcs hR
  unfold vi at h
  rw [lcm_eq] at h
  exact W.lcmp hC.1.1 hC.1.2.1 hd h
theorem sw_dup {v : Value} (hd : decode cc pc = .ok (.dup, 1)) (hp : pc' = pc + 1) (hv : v.category = 1) (k : SW G l own cc nL rm w pc' L (v :: v :: st) σ o) : SW G l own cc nL rm w pc L (v :: st) σ o := by
  subst hp
  intro r hr p e s m args below meth c H locs cells slots Q ls hC hW hl hcs hR
  exact lv_dup hC.1.1 hC.1.2.1 hd hv (k r hr p e s m args below meth c H locs cells slots Q ls hC hW hl hcs hR)
theorem sw_dup2 {v u : Value} (hd : decode cc pc = .ok (.dup2, 1)) (hp : pc' = pc + 1) (hv : v.category = 1) (hu : u.category = 1) (k : SW G l own cc nL rm w pc' L (v :: u :: v :: u :: st) σ o) : SW G l own cc nL rm w pc L (v :: u :: st) σ o := by
  subst hp
  intro r hr p e s m args below meth c H locs cells slots Q ls hC hW hl hcs hR
  exact lv_dup2_11 hC.1.1 hC.1.2.1 hd hv hu (k r hr p e s m args below meth c H locs cells slots Q ls hC hW hl hcs hR)
theorem sw_pop {v : Value} (hd : decode cc pc = .ok (.pop, 1)) (hp : pc' = pc + 1) (hv : v.category = 1) (k : SW G l own cc nL rm w pc' L st σ o) : SW G l own cc nL rm w pc L (v :: st) σ o := by
  subst hp
  intro r hr p e s m args below meth c H locs cells slots Q ls hC hW hl hcs hR
  exact lv_pop hC.1.1 hC.1.2.1 hd hv (k r hr p e s m args below meth c H locs cells slots Q ls hC hW hl hcs hR)
theorem sw_goto {off : Int} (hd : decode cc pc = .ok (.goto off, 3)) (hp : (pc : Int) + off = (pc' : Int)) (k : SW G l own cc nL rm w pc' L st σ o) : SW G l own cc nL rm w pc L st σ o := by
  intro r hr p e s m args below meth c H locs cells slots Q ls hC hW hl hcs hR
  exact lv_goto hC.1.1 hC.1.2.1 hd hp (k r hr p e s m args below meth c H locs cells slots Q ls hC hW hl hcs hR)
end SWR
end
section
/-! ===== branches, rows, fields, calls, ends ===== -/
section SWB
variable {G : Gh} {l : Launch} {own : String} {cc : ByteArray} {nL : Nat} {rm : Room} {ρ : Type} {w : ρ → Option Value × St} {pc pc' tgt : Nat} {L : List (Option Value)} {st : List Value} {σ : St} {o a b : Option ρ}
theorem i32_lt (x y : Int) : Int32.ofInt x < Int32.ofInt y ↔ wr x < wr y := Int32.lt_iff_toInt_lt
theorem i32_le (x y : Int) : Int32.ofInt x ≤ Int32.ofInt y ↔ wr x ≤ wr y := Int32.le_iff_toInt_le
theorem i32_eq (x y : Int) : Int32.ofInt x = Int32.ofInt y ↔ wr x = wr y := Int32.toInt_inj.symm
theorem i32_lt0 (x : Int) : Int32.ofInt x < 0 ↔ wr x < 0 := Int32.lt_iff_toInt_lt
theorem i32_le0 (x : Int) : Int32.ofInt x ≤ 0 ↔ wr x ≤ 0 := Int32.le_iff_toInt_le
theorem i32_ge0 (x : Int) : 0 ≤ Int32.ofInt x ↔ 0 ≤ wr x := Int32.le_iff_toInt_le
theorem i32_gt0 (x : Int) : 0 < Int32.ofInt x ↔ 0 < wr x := Int32.lt_iff_toInt_lt
theorem i32_eq0 (x : Int) : Int32.ofInt x = 0 ↔ wr x = 0 := Int32.toInt_inj.symm
theorem sw_case {P : Prop} [Decidable P] (ka : P → SW G l own cc nL rm w pc L st σ a) (kb : ¬ P → SW G l own cc nL rm w pc L st σ b) : SW G l own cc nL rm w pc L st σ (if P then a else b) := by
  by_cases h : P
  · rw [if_pos h]; exact ka h
  · rw [if_neg h]; exact kb h
theorem sw_icmp_lt {x y : Int} {off : Int} (hd : decode cc pc = .ok (.if_icmp .lt off, 3)) (ht : (pc : Int) + off = (tgt : Int)) (hp : pc' = pc + 3) (kt : wr x < wr y → SW G l own cc nL rm w tgt L st σ a) (kf : ¬ (wr x < wr y) → SW G l own cc nL rm w pc' L st σ b) : SW G l own cc nL rm w pc L (vi y :: vi x :: st) σ (if wr x < wr y then a else b) := by
  subst hp
  intro r hr p e s m args below meth c H locs cells slots Q ls hC hW hl hcs hR
  refine lv_icmp_lt hC.1.1 hC.1.2.1 hd ht (fun h => ?_) (fun h => ?_)
  · have h1 : wr x < wr y := (i32_lt x y).mp h
    rw [if_pos h1] at hr
    exact kt h1 r hr p e s m args below meth c H locs cells slots Q ls hC hW hl hcs hR
  · have h1 : ¬ (wr x < wr y) := fun e => h ((i32_lt x y).mpr e)
    rw [if_neg h1] at hr
    exact kf h1 r hr p e s m args below meth c H locs cells slots Q ls hC hW hl hcs hR
theorem sw_icmp_gt {x y : Int} {off : Int} (hd : decode cc pc = .ok (.if_icmp .gt off, 3)) (ht : (pc : Int) + off = (tgt : Int)) (hp : pc' = pc + 3) (kt : wr y < wr x → SW G l own cc nL rm w tgt L st σ a) (kf : ¬ (wr y < wr x) → SW G l own cc nL rm w pc' L st σ b) : SW G l own cc nL rm w pc L (vi y :: vi x :: st) σ (if wr y < wr x then a else b) := by
  subst hp
  intro r hr p e s m args below meth c H locs cells slots Q ls hC hW hl hcs hR
  refine lv_icmp_gt hC.1.1 hC.1.2.1 hd ht (fun h => ?_) (fun h => ?_)
  · have h1 : wr y < wr x := (i32_lt y x).mp h
    rw [if_pos h1] at hr
    exact kt h1 r hr p e s m args below meth c H locs cells slots Q ls hC hW hl hcs hR
  · have h1 : ¬ (wr y < wr x) := fun e => h ((i32_lt y x).mpr e)
    rw [if_neg h1] at hr
    exact kf h1 r hr p e s m args below meth c H locs cells slots Q ls hC hW hl hcs hR
theorem sw_icmp_eq {x y : Int} {off : Int} (hd : decode cc pc = .ok (.if_icmp .eq off, 3)) (ht : (pc : Int) + off = (tgt : Int)) (hp : pc' = pc + 3) (kt : wr x = wr y → SW G l own cc nL rm w tgt L st σ a) (kf : ¬ (wr x = wr y) → SW G l own cc nL rm w pc' L st σ b) : SW G l own cc nL rm w pc L (vi y :: vi x :: st) σ (if wr x = wr y then a else b) := by
  subst hp
  intro r hr p e s m args below meth c H locs cells slots Q ls hC hW hl hcs hR
  refine lv_icmp_eq hC.1.1 hC.1.2.1 hd ht (fun h => ?_) (fun h => ?_)
  · have h1 : wr x = wr y := (i32_eq x y).mp h
    rw [if_pos h1] at hr
    exact kt h1 r hr p e s m args below meth c H locs cells slots Q ls hC hW hl hcs hR
  · have h1 : ¬ (wr x = wr y) := fun e => h ((i32_eq x y).mpr e)
    rw [if_neg h1] at hr
    exact kf h1 r hr p e s m args below meth c H locs cells slots Q ls hC hW hl hcs hR
theorem sw_icmp_ge {x y : Int} {off : Int} (hd : decode cc pc = .ok (.if_icmp .ge off, 3)) (ht : (pc : Int) + off = (tgt : Int)) (hp : pc' = pc + 3) (kf : wr x < wr y → SW G l own cc nL rm w pc' L st σ a) (kt : ¬ (wr x < wr y) → SW G l own cc nL rm w tgt L st σ b) : SW G l own cc nL rm w pc L (vi y :: vi x :: st) σ (if wr x < wr y then a else b) := by
  subst hp
  intro r hr p e s m args below meth c H locs cells slots Q ls hC hW hl hcs hR
  refine lv_icmp_ge hC.1.1 hC.1.2.1 hd ht (fun h => ?_) (fun h => ?_)
  · have h1 : ¬ (wr x < wr y) := by have := (i32_le y x).mp h; omega
    rw [if_neg h1] at hr
    exact kt h1 r hr p e s m args below meth c H locs cells slots Q ls hC hW hl hcs hR
  · have h1 : wr x < wr y := by have : ¬ wr y ≤ wr x := fun e => h ((i32_le y x).mpr e); omega
    rw [if_pos h1] at hr
    exact kf h1 r hr p e s m args below meth c H locs cells slots Q ls hC hW hl hcs hR
theorem sw_icmp_le {x y : Int} {off : Int} (hd : decode cc pc = .ok (.if_icmp .le off, 3)) (ht : (pc : Int) + off = (tgt : Int)) (hp : pc' = pc + 3) (kf : wr y < wr x → SW G l own cc nL rm w pc' L st σ a) (kt : ¬ (wr y < wr x) → SW G l own cc nL rm w tgt L st σ b) : SW G l own cc nL rm w pc L (vi y :: vi x :: st) σ (if wr y < wr x then a else b) := by
  subst hp
  intro r hr p e s m args below meth c H locs cells slots Q ls hC hW hl hcs hR
  refine lv_icmp_le hC.1.1 hC.1.2.1 hd ht (fun h => ?_) (fun h => ?_)
  · have h1 : ¬ (wr y < wr x) := by have := (i32_le x y).mp h; omega
    rw [if_neg h1] at hr
    exact kt h1 r hr p e s m args below meth c H locs cells slots Q ls hC hW hl hcs hR
  · have h1 : wr y < wr x := by have : ¬ wr x ≤ wr y := fun e => h ((i32_le x y).mpr e); omega
    rw [if_pos h1] at hr
    exact kf h1 r hr p e s m args below meth c H locs cells slots Q ls hC hW hl hcs hR
theorem sw_icmp_ne {x y : Int} {off : Int} (hd : decode cc pc = .ok (.if_icmp .ne off, 3)) (ht : (pc : Int) + off = (tgt : Int)) (hp : pc' = pc + 3) (kf : wr x = wr y → SW G l own cc nL rm w pc' L st σ a) (kt : ¬ (wr x = wr y) → SW G l own cc nL rm w tgt L st σ b) : SW G l own cc nL rm w pc L (vi y :: vi x :: st) σ (if wr x = wr y then a else b) := by
  subst hp
  intro r hr p e s m args below meth c H locs cells slots Q ls hC hW hl hcs hR
  refine lv_icmp_ne hC.1.1 hC.1.2.1 hd ht (fun h => ?_) (fun h => ?_)
  · have h1 : ¬ (wr x = wr y) := fun e => h ((i32_eq x y).mpr e)
    rw [if_neg h1] at hr
    exact kt h1 r hr p e s m args below meth c H locs cells slots Q ls hC hW hl hcs hR
  · have h1 : wr x = wr y := (i32_eq x y).mp h
    rw [if_pos h1] at hr
    exact kf h1 r hr p e s m args below meth c H locs cells slots Q ls hC hW hl hcs hR
theorem sw_if_lt {x : Int} {off : Int} (hd : decode cc pc = .ok (.ifCond .lt off, 3)) (ht : (pc : Int) + off = (tgt : Int)) (hp : pc' = pc + 3) (kt : wr x < 0 → SW G l own cc nL rm w tgt L st σ a) (kf : ¬ (wr x < 0) → SW G l own cc nL rm w pc' L st σ b) : SW G l own cc nL rm w pc L (vi x :: st) σ (if wr x < 0 then a else b) := by
  subst hp
  intro r hr p e s m args below meth c H locs cells slots Q ls hC hW hl hcs hR
  refine lv_if_lt hC.1.1 hC.1.2.1 hd ht (fun h => ?_) (fun h => ?_)
  · have h1 : wr x < 0 := (i32_lt0 x).mp h
    rw [if_pos h1] at hr
    exact kt h1 r hr p e s m args below meth c H locs cells slots Q ls hC hW hl hcs hR
  · have h1 : ¬ (wr x < 0) := fun e => h ((i32_lt0 x).mpr e)
    rw [if_neg h1] at hr
    exact kf h1 r hr p e s m args below meth c H locs cells slots Q ls hC hW hl hcs hR
theorem sw_if_gt {x : Int} {off : Int} (hd : decode cc pc = .ok (.ifCond .gt off, 3)) (ht : (pc : Int) + off = (tgt : Int)) (hp : pc' = pc + 3) (kt : 0 < wr x → SW G l own cc nL rm w tgt L st σ a) (kf : ¬ (0 < wr x) → SW G l own cc nL rm w pc' L st σ b) : SW G l own cc nL rm w pc L (vi x :: st) σ (if 0 < wr x then a else b) := by
  subst hp
  intro r hr p e s m args below meth c H locs cells slots Q ls hC hW hl hcs hR
  refine lv_if_gt hC.1.1 hC.1.2.1 hd ht (fun h => ?_) (fun h => ?_)
  · have h1 : 0 < wr x := (i32_gt0 x).mp h
    rw [if_pos h1] at hr
    exact kt h1 r hr p e s m args below meth c H locs cells slots Q ls hC hW hl hcs hR
  · have h1 : ¬ (0 < wr x) := fun e => h ((i32_gt0 x).mpr e)
    rw [if_neg h1] at hr
    exact kf h1 r hr p e s m args below meth c H locs cells slots Q ls hC hW hl hcs hR
theorem sw_if_eq {x : Int} {off : Int} (hd : decode cc pc = .ok (.ifCond .eq off, 3)) (ht : (pc : Int) + off = (tgt : Int)) (hp : pc' = pc + 3) (kt : wr x = 0 → SW G l own cc nL rm w tgt L st σ a) (kf : ¬ (wr x = 0) → SW G l own cc nL rm w pc' L st σ b) : SW G l own cc nL rm w pc L (vi x :: st) σ (if wr x = 0 then a else b) := by
  subst hp
  intro r hr p e s m args below meth c H locs cells slots Q ls hC hW hl hcs hR
  refine lv_if_eq hC.1.1 hC.1.2.1 hd ht (fun h => ?_) (fun h => ?_)
  · have h1 : wr x = 0 := (i32_eq0 x).mp h
    rw [if_pos h1] at hr
    exact kt h1 r hr p e s m args below meth c H locs cells slots Q ls hC hW hl hcs hR
  · have h1 : ¬ (wr x = 0) := fun e => h ((i32_eq0 x).mpr e)
    rw [if_neg h1] at hr
    exact kf h1 r hr p e s m args below meth c H locs cells slots Q ls hC hW hl hcs hR
theorem sw_if_ge {x : Int} {off : Int} (hd : decode cc pc = .ok (.ifCond .ge off, 3)) (ht : (pc : Int) + off = (tgt : Int)) (hp : pc' = pc + 3) (kf : wr x < 0 → SW G l own cc nL rm w pc' L st σ a) (kt : ¬ (wr x < 0) → SW G l own cc nL rm w tgt L st σ b) : SW G l own cc nL rm w pc L (vi x :: st) σ (if wr x < 0 then a else b) := by
  subst hp
  intro r hr p e s m args below meth c H locs cells slots Q ls hC hW hl hcs hR
  refine lv_if_ge hC.1.1 hC.1.2.1 hd ht (fun h => ?_) (fun h => ?_)
  · have h1 : ¬ (wr x < 0) := by have := (i32_ge0 x).mp h; omega
    rw [if_neg h1] at hr
    exact kt h1 r hr p e s m args below meth c H locs cells slots Q ls hC hW hl hcs hR
  · have h1 : wr x < 0 := by have : ¬ 0 ≤ wr x := fun e => h ((i32_ge0 x).mpr e); omega
    rw [if_pos h1] at hr
    exact kf h1 r hr p e s m args below meth c H locs cells slots Q ls hC hW hl hcs hR
theorem sw_if_le {x : Int} {off : Int} (hd : decode cc pc = .ok (.ifCond .le off, 3)) (ht : (pc : Int) + off = (tgt : Int)) (hp : pc' = pc + 3) (kf : 0 < wr x → SW G l own cc nL rm w pc' L st σ a) (kt : ¬ (0 < wr x) → SW G l own cc nL rm w tgt L st σ b) : SW G l own cc nL rm w pc L (vi x :: st) σ (if 0 < wr x then a else b) := by
  subst hp
  intro r hr p e s m args below meth c H locs cells slots Q ls hC hW hl hcs hR
  refine lv_if_le hC.1.1 hC.1.2.1 hd ht (fun h => ?_) (fun h => ?_)
  · have h1 : ¬ (0 < wr x) := by have := (i32_le0 x).mp h; omega
    rw [if_neg h1] at hr
    exact kt h1 r hr p e s m args below meth c H locs cells slots Q ls hC hW hl hcs hR
  · have h1 : 0 < wr x := by have : ¬ wr x ≤ 0 := fun e => h ((i32_le0 x).mpr e); omega
    rw [if_pos h1] at hr
    exact kf h1 r hr p e s m args below meth c H locs cells slots Q ls hC hW hl hcs hR
theorem sw_if_ne {x : Int} {off : Int} (hd : decode cc pc = .ok (.ifCond .ne off, 3)) (ht : (pc : Int) + off = (tgt : Int)) (hp : pc' = pc + 3) (kf : wr x = 0 → SW G l own cc nL rm w pc' L st σ a) (kt : ¬ (wr x = 0) → SW G l own cc nL rm w tgt L st σ b) : SW G l own cc nL rm w pc L (vi x :: st) σ (if wr x = 0 then a else b) := by
  subst hp
  intro r hr p e s m args below meth c H locs cells slots Q ls hC hW hl hcs hR
  refine lv_if_ne hC.1.1 hC.1.2.1 hd ht (fun h => ?_) (fun h => ?_)
  · have h1 : ¬ (wr x = 0) := fun e => h ((i32_eq0 x).mpr e)
    rw [if_neg h1] at hr
    exact kt h1 r hr p e s m args below meth c H locs cells slots Q ls hC hW hl hcs hR
  · have h1 : wr x = 0 := (i32_eq0 x).mp h
    rw [if_pos h1] at hr
    exact kf h1 r hr p e s m args below meth c H locs cells slots Q ls hC hW hl hcs hR
theorem bi_wr (b : Bool) : wr (bi b) = 0 ↔ b = false := by cases b <;> decide
/-- a truth that was answered: falls through where it holds -/
theorem sw_bif_eq {x : Bool} {off : Int} (hd : decode cc pc = .ok (.ifCond .eq off, 3)) (ht : (pc : Int) + off = (tgt : Int)) (hp : pc' = pc + 3) (kf : x = true → SW G l own cc nL rm w pc' L st σ a) (kt : x = false → SW G l own cc nL rm w tgt L st σ b) : SW G l own cc nL rm w pc L (vi (bi x) :: st) σ (if x then a else b) := by
  subst hp
  intro r hr p e s m args below meth c H locs cells slots Q ls hC hW hl hcs hR
  refine lv_if_eq hC.1.1 hC.1.2.1 hd ht (fun h => ?_) (fun h => ?_)
  · have h1 : x = false := (bi_wr x).mp ((i32_eq0 _).mp h)
    rw [h1] at hr
    exact kt h1 r hr p e s m args below meth c H locs cells slots Q ls hC hW hl hcs hR
  · have h1 : x = true := by
      cases x
      · exact absurd rfl h
      · rfl
    rw [h1] at hr
    exact kf h1 r hr p e s m args below meth c H locs cells slots Q ls hC hW hl hcs hR
theorem sw_bif_ne {x : Bool} {off : Int} (hd : decode cc pc = .ok (.ifCond .ne off, 3)) (ht : (pc : Int) + off = (tgt : Int)) (hp : pc' = pc + 3) (kt : x = true → SW G l own cc nL rm w tgt L st σ a) (kf : x = false → SW G l own cc nL rm w pc' L st σ b) : SW G l own cc nL rm w pc L (vi (bi x) :: st) σ (if x then a else b) := by
  subst hp
  intro r hr p e s m args below meth c H locs cells slots Q ls hC hW hl hcs hR
  refine lv_if_ne hC.1.1 hC.1.2.1 hd ht (fun h => ?_) (fun h => ?_)
  · have h1 : x = true := by
      cases x
      · exact absurd rfl h
      · rfl
    rw [h1] at hr
    exact kt h1 r hr p e s m args below meth c H locs cells slots Q ls hC hW hl hcs hR
  · have h1 : x = false := by
      cases x
      · rfl
      · exact absurd h (by decide)
    rw [h1] at hr
    exact kf h1 r hr p e s m args below meth c H locs cells slots Q ls hC hW hl hcs hR
theorem sw_tin {x c0 dflt lo hi off : Int} {offs : Array Int} {len : Nat} (hd : decode cc pc = .ok (.tableswitch dflt lo hi offs, len)) (h : wr x = c0) (hc : lo ≤ c0 ∧ c0 ≤ hi) (ho : offs[(c0 - lo).toNat]? = some off) (ht : (pc : Int) + off = (tgt : Int)) (k : SW G l own cc nL rm w tgt L st σ o) : SW G l own cc nL rm w pc L (vi x :: st) σ o := by
  intro r hr p e s m args below meth c H locs cells slots Q ls hC hW hl hcs hR
  subst h
  exact lv_tableIn hC.1.1 hC.1.2.1 hd (show ¬ wr x < lo by omega) (show ¬ hi < wr x by omega) ho ht (k r hr p e s m args below meth c H locs cells slots Q ls hC hW hl hcs hR)
theorem sw_tout {x dflt lo hi : Int} {offs : Array Int} {len : Nat} (hd : decode cc pc = .ok (.tableswitch dflt lo hi offs, len)) (h : wr x < lo ∨ hi < wr x) (ht : (pc : Int) + dflt = (tgt : Int)) (k : SW G l own cc nL rm w tgt L st σ o) : SW G l own cc nL rm w pc L (vi x :: st) σ o := by
  intro r hr p e s m args below meth c H locs cells slots Q ls hC hW hl hcs hR
  exact lv_tableOut hC.1.1 hC.1.2.1 hd h ht (k r hr p e s m args below meth c H locs cells slots Q ls hC hW hl hcs hR)
/-! ends -/
abbrev wI : Int × St → Option Value × St := fun q => (some (vi q.1), q.2)
abbrev wB : Bool × St → Option Value × St := fun q => (some (vi (bi q.1)), q.2)
abbrev wL : Int × St → Option Value × St := fun q => (some (vl q.1), q.2)
abbrev wV : St → Option Value × St := fun q => (none, q)
abbrev wR (G : Gh) : Nat × St → Option Value × St := fun q => (some (.ref (ad G q.1)), q.2)
theorem sw_iret {x : Int} (hd : decode cc pc = .ok (.ireturn, 1)) : SW G l own cc nL rm wI pc L [vi x] σ (some (x, σ)) := by
  intro r hr p e s m args below meth c H locs cells slots Q ls hC hW hl hcs hR
  cases hr
  exact hR H locs pc ls hW hd
theorem sw_bret {x : Bool} (hd : decode cc pc = .ok (.ireturn, 1)) : SW G l own cc nL rm wB pc L [vi (bi x)] σ (some (x, σ)) := by
  intro r hr p e s m args below meth c H locs cells slots Q ls hC hW hl hcs hR
  cases hr
  exact hR H locs pc ls hW hd
theorem sw_zret {x : Int} (hd : decode cc pc = .ok (.ireturn, 1)) : SW G l own cc nL rm wB pc L [vi x] σ (if wr x = 0 then some (false, σ) else if wr x = 1 then some (true, σ) else none) := by
  intro r hr p e s m args below meth c H locs cells slots Q ls hC hW hl hcs hR
  by_cases h0 : wr x = 0
  · rw [if_pos h0] at hr
    cases hr
    have := hR H locs pc ls hW hd
    rw [← vi_wr, h0]
    exact this
  · rw [if_neg h0] at hr
    by_cases h1 : wr x = 1
    · rw [if_pos h1] at hr
      cases hr
      have := hR H locs pc ls hW hd
      rw [← vi_wr, h1]
      exact this
    · rw [if_neg h1] at hr
      cases hr
theorem sw_lret {x : Int} (hd : decode cc pc = .ok (.lreturn, 1)) : SW G l own cc nL rm wL pc L [vl x] σ (some (x, σ)) := by
  intro r hr p e s m args below meth c H locs cells slots Q ls hC hW hl hcs hR
  cases hr
  exact hR H locs pc ls hW hd
theorem sw_vret (hd : decode cc pc = .ok (.return_, 1)) : SW G l own cc nL rm wV pc L [] σ (some σ) := by
  intro r hr p e s m args below meth c H locs cells slots Q ls hC hW hl hcs hR
  cases hr
  exact hR H locs pc ls hW hd
theorem sw_aret {x : Nat} (hd : decode cc pc = .ok (.areturn, 1)) : SW G l own cc nL rm (wR G) pc L [.ref (ad G x)] σ (some (x, σ)) := by
  intro r hr p e s m args below meth c H locs cells slots Q ls hC hW hl hcs hR
  cases hr
  exact hR H locs pc ls hW hd
/-! rows -/
theorem ib_in {i : Int} {n : Nat} (h : 0 ≤ wr i ∧ wr i < n) : vp_in (Int32.ofInt i) n := vp_in_iff.mpr h
theorem gT_at (G : Gh) {t : Nat} (h : t < 3) : (gT G)[t]? = some (gC G t, tyN t) := by
  rcases (show t = 0 ∨ t = 1 ∨ t = 2 by omega) with rfl | rfl | rfl <;> rfl
theorem wd_garr {G : Gh} {σ : St} {k t n : Nat} (h : tb k = .inl (t, n)) : (wd G σ)[k]? = some (ad G k, .inl (gC G t, n, .inl (fun j => Int32.ofInt (σ k j)))) := by
  rw [wd_get G σ (tb_lt h), ent_arr h]
theorem wd_gobj {G : Gh} {σ : St} {k ci : Nat} {fl : List (Option Nat)} (h : tb k = .inr (ci, fl)) (hc : ci < 6) : (wd G σ)[k]? = some (ad G k, .inr (ci, fv G σ k 0 fl)) := by
  rw [wd_get G σ (tb_lt' h hc), ent_obj h]
theorem ld_some {σ : St} {a n : Nat} {i : Int} {ρ : Type} {kf : Int → Option ρ} {r : ρ} (h : bV (ld σ a n i) kf = some r) : (0 ≤ wr i ∧ wr i < n) ∧ kf (σ a (wr i).toNat) = some r := by
  unfold ld at h
  by_cases hi : 0 ≤ wr i ∧ wr i < n
  · rw [if_pos hi] at h
    exact ⟨hi, h⟩
  · rw [if_neg hi] at h
    cases h
theorem sv_some {σ : St} {a n : Nat} {i v : Int} {ρ : Type} {kf : St → Option ρ} {r : ρ} (h : bV (sv σ a n i v) kf = some r) : (0 ≤ wr i ∧ wr i < n) ∧ kf (up σ a (wr i).toNat v) = some r := by
  unfold sv at h
  by_cases hi : 0 ≤ wr i ∧ wr i < n
  · rw [if_pos hi] at h
    exact ⟨hi, h⟩
  · rw [if_neg hi] at h
    cases h
theorem sw_iald {k n : Nat} {i : Int} {kf : Int → Option ρ} (hd : decode cc pc = .ok (.iaload, 1)) (ht : tb k = .inl (0, n)) (hp : pc' = pc + 1) (kk : ∀ v, SW G l own cc nL rm w pc' L (vi v :: st) σ (kf v)) : SW G l own cc nL rm w pc L (vi i :: .ref (ad G k) :: st) σ (bV (ld σ k n i) kf) := by
  subst hp
  intro r hr p e s m args below meth c H locs cells slots Q ls hC hW hl hcs hR
  obtain ⟨hi, hr⟩ := ld_some hr
  exact va_iald hC.1.1 hC.1.2.1 hC.2.1 hW.1 k 0 (wd_garr ht) rfl (ib_in hi) hd (kk _ r hr p e s m args below meth c H locs cells slots Q ls hC hW hl hcs hR)
theorem sw_bald {k n : Nat} {i : Int} {kf : Int → Option ρ} (hd : decode cc pc = .ok (.baload, 1)) (ht : tb k = .inl (1, n)) (hp : pc' = pc + 1) (kk : ∀ v, SW G l own cc nL rm w pc' L (vi v :: st) σ (kf v)) : SW G l own cc nL rm w pc L (vi i :: .ref (ad G k) :: st) σ (bV (ld σ k n i) kf) := by
  subst hp
  intro r hr p e s m args below meth c H locs cells slots Q ls hC hW hl hcs hR
  obtain ⟨hi, hr⟩ := ld_some hr
  exact va_bald hC.1.1 hC.1.2.1 hC.2.1 hW.1 k 1 (wd_garr ht) rfl (ib_in hi) hd (kk _ r hr p e s m args below meth c H locs cells slots Q ls hC hW hl hcs hR)
theorem sw_zald {k n : Nat} {i : Int} {kf : Int → Option ρ} (hd : decode cc pc = .ok (.baload, 1)) (ht : tb k = .inl (2, n)) (hp : pc' = pc + 1) (kk : ∀ v, SW G l own cc nL rm w pc' L (vi v :: st) σ (kf v)) : SW G l own cc nL rm w pc L (vi i :: .ref (ad G k) :: st) σ (bV (ld σ k n i) kf) := by
  subst hp
  intro r hr p e s m args below meth c H locs cells slots Q ls hC hW hl hcs hR
  obtain ⟨hi, hr⟩ := ld_some hr
  exact va_zald hC.1.1 hC.1.2.1 hC.2.1 hW.1 k 2 (wd_garr ht) rfl (ib_in hi) hd (kk _ r hr p e s m args below meth c H locs cells slots Q ls hC hW hl hcs hR)
theorem sw_iast {k n : Nat} {i x : Int} {kf : St → Option ρ} (hd : decode cc pc = .ok (.iastore, 1)) (ht : tb k = .inl (0, n)) (hp : pc' = pc + 1) (kk : ∀ τ, SW G l own cc nL rm w pc' L st τ (kf τ)) : SW G l own cc nL rm w pc L (vi x :: vi i :: .ref (ad G k) :: st) σ (bV (sv σ k n i x) kf) := by
  subst hp
  intro r hr p e s m args below meth c H locs cells slots Q ls hC hW hl hcs hR
  obtain ⟨hi, hr⟩ := sv_some hr
  refine va_iast hC.1.1 hC.1.2.1 hC.2.1 hW.1 (hC.2.D σ) hW.2 k 0 (wd_garr ht) rfl (ib_in hi) hd (fun H1 locs1 hP _ hS => ?_)
  rw [wd_arr (v := x) ht rfl] at hP
  exact kk _ r hr p e s m args below meth c H1 locs1 cells slots Q ls hC ⟨hP, hS⟩ hl hcs hR
theorem sw_bast {k n : Nat} {i x : Int} {kf : St → Option ρ} (hd : decode cc pc = .ok (.bastore, 1)) (ht : tb k = .inl (1, n)) (hp : pc' = pc + 1) (kk : ∀ τ, SW G l own cc nL rm w pc' L st τ (kf τ)) : SW G l own cc nL rm w pc L (vi x :: vi i :: .ref (ad G k) :: st) σ (bV (sv σ k n i (nab x)) kf) := by
  subst hp
  intro r hr p e s m args below meth c H locs cells slots Q ls hC hW hl hcs hR
  obtain ⟨hi, hr⟩ := sv_some hr
  refine va_bast hC.1.1 hC.1.2.1 hC.2.1 hW.1 (hC.2.D σ) hW.2 k 1 (wd_garr ht) rfl (ib_in hi) hd (fun H1 locs1 hP _ hS => ?_)
  rw [wd_arr (v := nab x) ht (by unfold nab; rw [Int32.ofInt_toInt])] at hP
  exact kk _ r hr p e s m args below meth c H1 locs1 cells slots Q ls hC ⟨hP, hS⟩ hl hcs hR
theorem sw_zast {k n : Nat} {i x : Int} {kf : St → Option ρ} (hd : decode cc pc = .ok (.bastore, 1)) (ht : tb k = .inl (2, n)) (hp : pc' = pc + 1) (kk : ∀ τ, SW G l own cc nL rm w pc' L st τ (kf τ)) : SW G l own cc nL rm w pc L (vi x :: vi i :: .ref (ad G k) :: st) σ (bV (sv σ k n i (naz x)) kf) := by
  subst hp
  intro r hr p e s m args below meth c H locs cells slots Q ls hC hW hl hcs hR
  obtain ⟨hi, hr⟩ := sv_some hr
  refine va_zast hC.1.1 hC.1.2.1 hC.2.1 hW.1 (hC.2.D σ) hW.2 k 2 (wd_garr ht) rfl (ib_in hi) hd (fun H1 locs1 hP _ hS => ?_)
  rw [wd_arr (v := naz x) ht (by unfold naz; rw [Int32.ofInt_toInt])] at hP
  exact kk _ r hr p e s m args below meth c H1 locs1 cells slots Q ls hC ⟨hP, hS⟩ hl hcs hR
theorem sw_alen {k t n : Nat} (hd : decode cc pc = .ok (.arraylength, 1)) (ht : tb k = .inl (t, n)) (ht3 : t < 3) (hp : pc' = pc + 1) (kk : SW G l own cc nL rm w pc' L (vi (n : Int) :: st) σ o) : SW G l own cc nL rm w pc L (.ref (ad G k) :: st) σ o := by
  subst hp
  intro r hr p e s m args below meth c H locs cells slots Q ls hC hW hl hcs hR
  have hg : (wd G σ)[k]? = some (ad G k, .inl (gC G t, n, .inl (fun j => Int32.ofInt (σ k j)))) := wd_garr ht
  exact va_alen (v := Int32.ofInt (n : Int)) hC.1.1 hC.1.2.1 hC.2.1 hW.1 k t hg (gT_at G ht3) (by show Int32.ofNat n = _; rw [Int32.ofInt_eq_ofNat]) hd (kk r hr p e s m args below meth c H locs cells slots Q ls hC hW hl hcs hR)
/-! fields: FL own index ci j: the link of the j-th field of class ci -/
def FL (own : String) (index ci j : Nat) : Prop := ∃ (C : String) (T : u_T) (N : Nat), vwCl[ci]? = some (C, T, N) ∧ ci < 6 ∧ j < N ∧ (∀ w ∈ u_ws C T N, w ∈ TB) ∧ Cond.fieldLink own index (T j).1 (T j).2.1 (T j).2.2.1 ∈ TB
theorem sw_getn {k ci j idx : Nat} {fl : List (Option Nat)} (hd : decode cc pc = .ok (.getfield idx, 3)) (hF : FL own idx ci j) (ht : tb k = .inr (ci, fl)) (hj : fl[j]? = some none) (hp : pc' = pc + 3) (kk : SW G l own cc nL rm w pc' L (vi (σ k j) :: st) σ o) : SW G l own cc nL rm w pc L (.ref (ad G k) :: st) σ o := by
  subst hp
  intro r hr p e s m args below meth c H locs cells slots Q ls hC hW hl hcs hR
  obtain ⟨C, T, N, h1, h2, h3, h4, h5⟩ := hF
  have hv := fv_num G σ k fl 0 j hj
  rw [Nat.zero_add] at hv
  exact va_get hC.1.1 hC.1.2.1 hC.1.2.2.2.2 h4 hC.1.2.2.2.1 hC.2.1 hW.1 k (wd_gobj ht h2) h1 j h3 (hC.1.2.2.2.2 _ h5) (fun _ h9 => h9) hv hd (kk r hr p e s m args below meth c H locs cells slots Q ls hC hW hl hcs hR)
theorem sw_getr {k ci j idx t : Nat} {fl : List (Option Nat)} (hd : decode cc pc = .ok (.getfield idx, 3)) (hF : FL own idx ci j) (ht : tb k = .inr (ci, fl)) (hj : fl[j]? = some (some t)) (hp : pc' = pc + 3) (kk : SW G l own cc nL rm w pc' L (.ref (ad G t) :: st) σ o) : SW G l own cc nL rm w pc L (.ref (ad G k) :: st) σ o := by
  subst hp
  intro r hr p e s m args below meth c H locs cells slots Q ls hC hW hl hcs hR
  obtain ⟨C, T, N, h1, h2, h3, h4, h5⟩ := hF
  have hv := fv_ref G σ k fl 0 j hj
  exact va_get hC.1.1 hC.1.2.1 hC.1.2.2.2.2 h4 hC.1.2.2.2.1 hC.2.1 hW.1 k (wd_gobj ht h2) h1 j h3 (hC.1.2.2.2.2 _ h5) (fun _ h9 => h9) hv hd (kk r hr p e s m args below meth c H locs cells slots Q ls hC hW hl hcs hR)
/-- a field that is written: its link, its type, its names apart, not final -/
def FP (own : String) (index ci j : Nat) (ty : FieldType) : Prop := ∃ (C : String) (T : u_T) (N : Nat) (ty0 : Nat → FieldType), vwCl[ci]? = some (C, T, N) ∧ ci < 6 ∧ j < N ∧ (∀ w ∈ u_ws C T N, w ∈ TB) ∧ Cond.fieldLink own index (T j).1 (T j).2.1 (T j).2.2.1 ∈ TB ∧ (∀ k, k < N → parseFieldDescriptor (T k).2.2.1 = some (ty0 k)) ∧ (∀ a, a < N → ∀ b, b < N → a ≠ b → (T a).2.1 ≠ (T b).2.1) ∧ (T j).2.2.2 = false ∧ ty0 j = ty
theorem sw_puti {k ci j idx : Nat} {x : Int} {fl : List (Option Nat)} (hd : decode cc pc = .ok (.putfield idx, 3)) (hF : FP own idx ci j .int) (ht : tb k = .inr (ci, fl)) (hj : fl[j]? = some none) (hp : pc' = pc + 3) (kk : SW G l own cc nL rm w pc' L st (up σ k j x) o) : SW G l own cc nL rm w pc L (vi x :: .ref (ad G k) :: st) σ o := by
  subst hp
  intro r hr p e s m args below meth c H locs cells slots Q ls hC hW hl hcs hR
  obtain ⟨C, T, N, ty0, h1, h2, h3, h4, h5, h6, h7, h8, h9⟩ := hF
  have hjl : j < (fv G σ k 0 fl).length := by rw [fv_len]; exact (List.getElem?_eq_some_iff.mp hj).1
  refine va_put (ty := .int) (v := vi x) hC.1.1 hC.1.2.1 hC.1.2.2.2.2 h4 ty0 h6 h7 hC.1.2.2.2.1 hC.2.1 hW.1 (hC.2.D σ) hW.2 k (wd_gobj ht h2) h1 j h3 (hC.1.2.2.2.2 _ h5) (fun _ h9 => h9) h8 (by rw [h6 j h3, h9]) rfl rfl hjl hd (fun H1 locs1 hP _ hS => ?_)
  rw [wd_fld ht h2 hj] at hP
  exact kk r hr p e s m args below meth c H1 locs1 cells slots Q ls hC ⟨hP, hS⟩ hl hcs hR
theorem sw_putz {k ci j idx : Nat} {x : Int} {fl : List (Option Nat)} (hd : decode cc pc = .ok (.putfield idx, 3)) (hF : FP own idx ci j .boolean) (ht : tb k = .inr (ci, fl)) (hj : fl[j]? = some none) (hp : pc' = pc + 3) (kk : SW G l own cc nL rm w pc' L st (up σ k j x) o) : SW G l own cc nL rm w pc L (vi x :: .ref (ad G k) :: st) σ (if wr x = 0 ∨ wr x = 1 then o else none) := by
  subst hp
  intro r hr p e s m args below meth c H locs cells slots Q ls hC hW hl hcs hR
  by_cases hz : wr x = 0 ∨ wr x = 1
  · rw [if_pos hz] at hr
    obtain ⟨C, T, N, ty0, h1, h2, h3, h4, h5, h6, h7, h8, h9⟩ := hF
    have hjl : j < (fv G σ k 0 fl).length := by rw [fv_len]; exact (List.getElem?_eq_some_iff.mp hj).1
    have hn : narrow .boolean (vi x) = vi x := by
      rw [← vi_wr x]
      rcases hz with e | e <;> rw [e] <;> rfl
    refine va_put (ty := .boolean) (v := vi x) hC.1.1 hC.1.2.1 hC.1.2.2.2.2 h4 ty0 h6 h7 hC.1.2.2.2.1 hC.2.1 hW.1 (hC.2.D σ) hW.2 k (wd_gobj ht h2) h1 j h3 (hC.1.2.2.2.2 _ h5) (fun _ h9 => h9) h8 (by rw [h6 j h3, h9]) hn (by rw [← vi_wr x]; rcases hz with e | e <;> rw [e] <;> rfl) hjl hd (fun H1 locs1 hP _ hS => ?_)
    rw [wd_fld ht h2 hj] at hP
    exact kk r hr p e s m args below meth c H1 locs1 cells slots Q ls hC ⟨hP, hS⟩ hl hcs hR
  · rw [if_neg hz] at hr
    cases hr
end SWB
end
section
/-! ===== contracts out of SW, and calls ===== -/
theorem goodTB {ws : List Cond} (h : ∀ w ∈ ws, w ∈ TB) : GoodIn TB ws := fun w hw => ⟨h w hw, good_of_word (List.mem_filter.mp (h w hw)).2⟩
/-- the contract of a method at these arguments and cells: where the function says some r, r's answer and cells -/
def MT (G : Gh) (l : Launch) (y : MethodName) (cc : ByteArray) (nL : Nat) (ret : Option FieldType) (rm : Room) (As : List Value) {ρ : Type} (w : ρ → Option Value × St) (σ : St) (o : Option ρ) : Prop :=
  ∀ r, o = some r → Met l y (.code y cc nL ret :: TB) rm (va_Pc As (fun U => KG G U ∧ va_P (gD G) vwCl (wd G σ) U.heap)) (fun _ st oc t => (oc = .returned (w r).1 ∧ va_P (gD G) vwCl (wd G (w r).2) t.heap) ∧ va_F (AD G) st t) 0 0 (AD G)
def arL : List Value → List (Option Value)
  | [] => []
  | v :: vs => if v.category = 2 then some v :: none :: arL vs else some v :: arL vs
theorem arL_mem : ∀ (vs : List Value) (n i0 i : Nat) (v : Value), (arL vs ++ List.replicate n none)[i]? = some (some v) → (i0 + i, v) ∈ lv_args i0 vs := by
  intro vs
  induction vs with
  | nil =>
    intro n i0 i v h
    simp only [arL, List.nil_append, List.getElem?_replicate] at h
    split at h <;> cases h
  | cons u vs ih =>
    intro n i0 i v h
    by_cases hc : u.category = 2
    · simp only [arL, hc, if_true, List.cons_append] at h
      simp only [lv_args, hc, if_true]
      match i, h with
      | 0, h => simp at h; subst h; exact List.mem_cons_self
      | 1, h => simp at h
      | i + 2, h =>
        have h1 := ih n (i0 + 2) i v (by simpa using h)
        rw [show i0 + (i + 2) = i0 + 2 + i by omega]
        exact List.mem_cons_of_mem _ h1
    · simp only [arL, hc, if_false, List.cons_append] at h
      simp only [lv_args, hc, if_false]
      match i, h with
      | 0, h => simp at h; subst h; exact List.mem_cons_self
      | i + 1, h =>
        have h1 := ih n (i0 + 1) i v (by simpa using h)
        rw [show i0 + (i + 1) = i0 + 1 + i by omega]
        exact List.mem_cons_of_mem _ h1
theorem arL_has (vs : List Value) {n : Nat} {L : List (Option Value)} (h : (lg_sl vs).length ≤ n) (hL : arL vs ++ List.replicate (n - (arL vs).length) none = L) : lv_has ((lg_sl vs ++ List.replicate (n - (lg_sl vs).length) Slot.unset).toArray) n (lvO 0 L) := by
  subst hL
  exact lvO_sub (lv_entry vs h) (fun i v hi => by have := arL_mem vs _ 0 i v hi; rwa [Nat.zero_add] at this)
section MTS
variable {G : Gh} {l : Launch} {y : MethodName} {cc : ByteArray} {nL : Nat} {rm : Room} {As : List Value} {L : List (Option Value)} {σ : St}
theorem mt_I {o : Option (Int × St)} (hy : plainName y.cls = true) (hl : (lg_sl As).length ≤ nL) (hL : arL As ++ List.replicate (nL - (arL As).length) none = L) (h : SW G l y.cls cc nL rm wI 0 L [] σ o) : MT G l y cc nL (some .int) rm As wI σ o := by
  intro r hr
  refine Met.ofW (cc := cc) (maxL := nL) (ret := (some .int)) hy rfl ?_
  intro p e s m args below meth c s₁ B hml hv
  obtain ⟨rfl, hK, hP⟩ := hv
  have hts := atoms_spec (ws := .code y cc nL (some .int) :: TB) B.pre
  have hown : s.vm.findClass y.cls = some m.cls := findClass_of_methodNamed B.named
  rw [lg_entry_eq]
  refine h r hr p e s m _ below meth c s.heap [] 0 0 _ _ ⟨⟨B.exec, B.bytes, hml, hown, fun w hw => hts w (List.mem_cons_of_mem _ hw)⟩, hK⟩ ⟨hP, va_S.rf⟩ (arL_has As hl hL) ⟨Nat.zero_le _, Nat.zero_le _⟩ ?_
  intro H' locs' pc' ls' hW hd
  exact W.iret (hlocks := B.notSynchronized) B.exec B.bytes B.returns (fun t ht hWm => ⟨⟨rfl, by rw [ht]; exact hW.1⟩, hW.2.F ht⟩) hW.2.2.2 hd
theorem mt_B {o : Option (Bool × St)} (hy : plainName y.cls = true) (hl : (lg_sl As).length ≤ nL) (hL : arL As ++ List.replicate (nL - (arL As).length) none = L) (h : SW G l y.cls cc nL rm wB 0 L [] σ o) : MT G l y cc nL (some .boolean) rm As wB σ o := by
  intro r hr
  refine Met.ofW (cc := cc) (maxL := nL) (ret := (some .boolean)) hy rfl ?_
  intro p e s m args below meth c s₁ B hml hv
  obtain ⟨rfl, hK, hP⟩ := hv
  have hts := atoms_spec (ws := .code y cc nL (some .boolean) :: TB) B.pre
  have hown : s.vm.findClass y.cls = some m.cls := findClass_of_methodNamed B.named
  rw [lg_entry_eq]
  refine h r hr p e s m _ below meth c s.heap [] 0 0 _ _ ⟨⟨B.exec, B.bytes, hml, hown, fun w hw => hts w (List.mem_cons_of_mem _ hw)⟩, hK⟩ ⟨hP, va_S.rf⟩ (arL_has As hl hL) ⟨Nat.zero_le _, Nat.zero_le _⟩ ?_
  intro H' locs' pc' ls' hW hd
  have hn : narrow .boolean (vi (bi r.1)) = vi (bi r.1) := by cases r.1 <;> rfl
  exact W.zret (hlocks := B.notSynchronized) B.exec B.bytes B.returns hn (fun t ht hWm => ⟨⟨rfl, by rw [ht]; exact hW.1⟩, hW.2.F ht⟩) hW.2.2.2 hd
theorem mt_L {o : Option (Int × St)} (hy : plainName y.cls = true) (hl : (lg_sl As).length ≤ nL) (hL : arL As ++ List.replicate (nL - (arL As).length) none = L) (h : SW G l y.cls cc nL rm wL 0 L [] σ o) : MT G l y cc nL (some .long) rm As wL σ o := by
  intro r hr
  refine Met.ofW (cc := cc) (maxL := nL) (ret := (some .long)) hy rfl ?_
  intro p e s m args below meth c s₁ B hml hv
  obtain ⟨rfl, hK, hP⟩ := hv
  have hts := atoms_spec (ws := .code y cc nL (some .long) :: TB) B.pre
  have hown : s.vm.findClass y.cls = some m.cls := findClass_of_methodNamed B.named
  rw [lg_entry_eq]
  refine h r hr p e s m _ below meth c s.heap [] 0 0 _ _ ⟨⟨B.exec, B.bytes, hml, hown, fun w hw => hts w (List.mem_cons_of_mem _ hw)⟩, hK⟩ ⟨hP, va_S.rf⟩ (arL_has As hl hL) ⟨Nat.zero_le _, Nat.zero_le _⟩ ?_
  intro H' locs' pc' ls' hW hd
  exact W.lret (hlocks := B.notSynchronized) B.exec B.bytes B.returns (fun t ht hWm => ⟨⟨rfl, by rw [ht]; exact hW.1⟩, hW.2.F ht⟩) hW.2.2.2 hd
theorem mt_V {o : Option (St)} (hy : plainName y.cls = true) (hl : (lg_sl As).length ≤ nL) (hL : arL As ++ List.replicate (nL - (arL As).length) none = L) (h : SW G l y.cls cc nL rm wV 0 L [] σ o) : MT G l y cc nL none rm As wV σ o := by
  intro r hr
  refine Met.ofW (cc := cc) (maxL := nL) (ret := none) hy rfl ?_
  intro p e s m args below meth c s₁ B hml hv
  obtain ⟨rfl, hK, hP⟩ := hv
  have hts := atoms_spec (ws := .code y cc nL none :: TB) B.pre
  have hown : s.vm.findClass y.cls = some m.cls := findClass_of_methodNamed B.named
  rw [lg_entry_eq]
  refine h r hr p e s m _ below meth c s.heap [] 0 0 _ _ ⟨⟨B.exec, B.bytes, hml, hown, fun w hw => hts w (List.mem_cons_of_mem _ hw)⟩, hK⟩ ⟨hP, va_S.rf⟩ (arL_has As hl hL) ⟨Nat.zero_le _, Nat.zero_le _⟩ ?_
  intro H' locs' pc' ls' hW hd
  exact W.vret (hlocks := B.notSynchronized) B.exec B.bytes B.returns (fun t ht hWm => ⟨⟨rfl, by rw [ht]; exact hW.1⟩, hW.2.F ht⟩) hW.2.2.2 hd
theorem mt_R {C : String} {o : Option (Nat × St)} (hy : plainName y.cls = true) (hl : (lg_sl As).length ≤ nL) (hL : arL As ++ List.replicate (nL - (arL As).length) none = L) (h : SW G l y.cls cc nL rm (wR G) 0 L [] σ o) : MT G l y cc nL (some (.object C)) rm As (wR G) σ o := by
  intro r hr
  refine Met.ofW (cc := cc) (maxL := nL) (ret := (some (.object C))) hy rfl ?_
  intro p e s m args below meth c s₁ B hml hv
  obtain ⟨rfl, hK, hP⟩ := hv
  have hts := atoms_spec (ws := .code y cc nL (some (.object C)) :: TB) B.pre
  have hown : s.vm.findClass y.cls = some m.cls := findClass_of_methodNamed B.named
  rw [lg_entry_eq]
  refine h r hr p e s m _ below meth c s.heap [] 0 0 _ _ ⟨⟨B.exec, B.bytes, hml, hown, fun w hw => hts w (List.mem_cons_of_mem _ hw)⟩, hK⟩ ⟨hP, va_S.rf⟩ (arL_has As hl hL) ⟨Nat.zero_le _, Nat.zero_le _⟩ ?_
  intro H' locs' pc' ls' hW hd
  exact W.aret (hlocks := B.notSynchronized) B.exec B.bytes B.returns (Or.inl ⟨_, rfl⟩) (Or.inr ⟨_, rfl⟩) (fun t ht hWm => ⟨⟨rfl, by rw [ht]; exact hW.1⟩, hW.2.F ht⟩) hW.2.2.2 hd
end MTS
/-- the words of a call: of a static method; of a method of an object of class ci; of a static nest mate -/
def CS (own : String) (idx : Nat) (y : MethodName) (cc : ByteArray) (nL : Nat) (ret : Option FieldType) (n : Nat) : Prop := Cond.methodLink own idx y ∈ TB ∧ Cond.static y ∈ TB ∧ Cond.initialized y.cls ∈ TB ∧ Cond.code y cc nL ret ∈ TB ∧ (y.cls ≠ "java/lang/invoke/MethodHandle" ∧ y.cls ≠ "java/lang/invoke/VarHandle" ∧ (parseMethodDescriptor y.desc).map (fun d => d.parameters.length) = some n)
def CN (own : String) (idx : Nat) (y : MethodName) (host : String) (cc : ByteArray) (nL : Nat) (ret : Option FieldType) (n : Nat) : Prop := (∀ (G : Gh) (U : State), KG G U → va_Nw (.methodLinkNest own idx y host) U) ∧ Cond.static y ∈ TB ∧ Cond.initialized y.cls ∈ TB ∧ Cond.code y cc nL ret ∈ TB ∧ (y.cls ≠ "java/lang/invoke/MethodHandle" ∧ y.cls ≠ "java/lang/invoke/VarHandle" ∧ (parseMethodDescriptor y.desc).map (fun d => d.parameters.length) = some n)
def CV (own : String) (idx ci : Nat) (y : MethodName) (cc : ByteArray) (nL : Nat) (ret : Option FieldType) (n : Nat) : Prop := Cond.methodLink own idx y ∈ TB ∧ Cond.instanceMethod y ∈ TB ∧ Cond.selects y.cls y y ∈ TB ∧ Cond.initialized y.cls ∈ TB ∧ Cond.code y cc nL ret ∈ TB ∧ (y.cls = y.cls ∧ y.cls ≠ "java/lang/invoke/MethodHandle" ∧ y.cls ≠ "java/lang/invoke/VarHandle" ∧ (parseMethodDescriptor y.desc).map (fun d => d.parameters.length) = some n) ∧ ci < 6 ∧ ∃ (T : u_T) (N : Nat), vwCl[ci]? = some (y.cls, T, N)
/-- does a callee's room fit -/
def fitR (rc rm : Room) (nL : Nat) : Bool := decide (rc.cells = 0) && decide (rc.slots = 0) && decide (rc.frames + 1 ≤ rm.frames) && decide (8 + (nL + 11) + rc.locals ≤ rm.locals)
theorem fitR_of {rc rm : Room} {nL : Nat} (h : fitR rc rm nL = true) : rc.cells = 0 ∧ rc.slots = 0 ∧ (rc.frames + 1 ≤ rm.frames ∧ 8 + (nL + 11) + rc.locals ≤ rm.locals) := by
  simp only [fitR, Bool.and_eq_true, decide_eq_true_eq] at h
  exact ⟨h.1.1.1, h.1.1.2, h.1.2, h.2⟩
def cat8 (rest : List Value) : Bool := decide ((rest.map fun v => v.category).sum ≤ 8)
section SWC
variable {G : Gh} {l : Launch} {own : String} {cc : ByteArray} {nL : Nat} {rm : Room} {ρ : Type} {w : ρ → Option Value × St} {pc pc' : Nat} {L : List (Option Value)} {st rest : List Value} {σ : St}
  {α : Type} {w' : α → Option Value × St} {y : MethodName} {cc' : ByteArray} {nL' : Nat} {ret' : Option FieldType} {rm' : Room} {As : List Value} {idx n : Nat}
theorem pcBlind : FrameBlind (va_Pc As (fun U => KG G U ∧ va_P (gD G) vwCl (wd G σ) U.heap)) := fun a U g mk h => ⟨h.1, KG.same (u := U) rfl h.2.1, h.2.2⟩
/-- behind a call -/
theorem callW {q : α} {p : Program} {e : Env} {s : State} {m : MethodId} {args : Array Value} {below : List Frame} {meth : Method} {c : Code} {H : Heap} {locs : List Loc} {cells slots : Nat} {Q : State → Prop} {ls : Array Slot}
    (hrun : va_Run p l e rm s m args below meth c H locs cells slots 0 0 (F0 m pc ls st) rest (fun st oc t => (oc = .returned (w' q).1 ∧ va_P (gD G) vwCl (wd G (w' q).2) t.heap) ∧ va_F (AD G) st t) (AD G)) (hW : WD G σ s.heap H locs)
    (kk : ∀ (H1 : Heap) (locs1 : List Loc), WD G (w' q).2 s.heap H1 locs1 → W p l e rm s m args below meth c H1 locs1 cells slots Q (F0 m (pc + 3) ls ((w' q).1.toList ++ rest))) : W p l e rm s m args below meth c H locs cells slots Q (F0 m pc ls st) := by
  intro T hT X
  obtain ⟨v, st₀, t, T', L', h0, X', hL, e1, e2, ⟨⟨hv, hP'⟩, hz, hk⟩, stp⟩ := hrun T hT X
  cases hv
  rw [h0] at hz hk
  obtain ⟨t2, a1, b1⟩ := kk T'.heap (locs ++ L') ⟨by rw [e1]; exact hP', Nat.le_trans hW.2.1 (by rw [e1]; exact hz), fun q h1 h2 => by rw [e1, hk q (Nat.lt_of_lt_of_le h1 hW.2.1) h2]; exact hW.2.2.1 q h1 h2, fun q hq => by
      rcases List.mem_append.mp hq with h | h
      · exact hW.2.2.2 q h
      · exact hL q h⟩ T' rfl X'
  exact ⟨t2, stp t2 a1, b1⟩
theorem inTB3 {a b c d : Cond} (ha : a ∈ TB) (hb : b ∈ TB) (hc : c ∈ TB) (hd : d ∈ TB) : ∀ w ∈ ([a, b, c] : List Cond) ++ (d :: TB), w ∈ TB := by
  intro w hw
  simp only [List.cons_append, List.nil_append, List.mem_cons] at hw
  rcases hw with rfl | rfl | rfl | rfl | hw <;> assumption
theorem inTB4 {a b c d x : Cond} (ha : a ∈ TB) (hb : b ∈ TB) (hc : c ∈ TB) (hx : x ∈ TB) (hd : d ∈ TB) : ∀ w ∈ ([a, b, c, x] : List Cond) ++ (d :: TB), w ∈ TB := by
  intro w hw
  simp only [List.cons_append, List.nil_append, List.mem_cons] at hw
  rcases hw with rfl | rfl | rfl | rfl | rfl | hw <;> assumption
theorem inTB1 {d : Cond} (hd : d ∈ TB) : ∀ w ∈ (d :: TB), w ∈ TB := by
  intro w hw
  rcases List.mem_cons.mp hw with rfl | hw <;> assumption
theorem sw_callS {o' : Option α} {kf : α → Option ρ} (hd : decode cc pc = .ok (.invokestatic idx, 3)) (hc : CS own idx y cc' nL' ret' n) (hM : MT G l y cc' nL' ret' rm' As w' σ o') (hn : As.length = n) (hR : fitR rm' rm nL' = true) (hst : st = As.reverse ++ rest) (h8 : cat8 rest = true) (hp : pc' = pc + 3)
    (kk : ∀ q, SW G l own cc nL rm w pc' L ((w' q).1.toList ++ rest) (w' q).2 (kf q)) : SW G l own cc nL rm w pc L st σ (bV o' kf) := by
  subst hp
  intro r hr p e s m args below meth c H locs cells slots Q ls hC hW hl hcs hRet
  obtain ⟨c1, c2, c3, c4, c5⟩ := hc
  obtain ⟨r1, r2, r3⟩ := fitR_of hR
  cases o' with
  | none => cases hr
  | some q =>
    have hrun := va_runS (g := F0 m pc ls st) (rest := rest) (e := e) (below := below) (meth := meth) (locs := locs) (cells := cells) (slots := slots) hC.1 (hM q rfl) (va_cwS n hC.1.2.2.2.2 (goodTB (inTB3 c1 c2 c3 c4)) rfl r1 r2 c5 r3) ⟨pcBlind, fun U hU hWm => ⟨rfl, KG.warm hWm hC.2, by rw [hU]; exact hW.1⟩⟩ rfl hn hl.1 hst (lv_room (of_decide_eq_true h8)) hd hcs
    exact callW hrun hW (fun H1 locs1 hW1 => kk q r hr p e s m args below meth c H1 locs1 cells slots Q ls hC hW1 hl hcs hRet)
theorem sw_callN {host : String} {o' : Option α} {kf : α → Option ρ} (hd : decode cc pc = .ok (.invokestatic idx, 3)) (hc : CN own idx y host cc' nL' ret' n) (hM : MT G l y cc' nL' ret' rm' As w' σ o') (hn : As.length = n) (hR : fitR rm' rm nL' = true) (hst : st = As.reverse ++ rest) (h8 : cat8 rest = true) (hp : pc' = pc + 3)
    (kk : ∀ q, SW G l own cc nL rm w pc' L ((w' q).1.toList ++ rest) (w' q).2 (kf q)) : SW G l own cc nL rm w pc L st σ (bV o' kf) := by
  subst hp
  intro r hr p e s m args below meth c H locs cells slots Q ls hC hW hl hcs hRet
  obtain ⟨c1, c2, c3, c4, c5⟩ := hc
  obtain ⟨r1, r2, r3⟩ := fitR_of hR
  cases o' with
  | none => cases hr
  | some q =>
    have hrun := va_runSN (g := F0 m pc ls st) (rest := rest) (e := e) (below := below) (meth := meth) (locs := locs) (cells := cells) (slots := slots) hC.1 (hM q rfl) ⟨va_cnB n hC.1.2.2.2.2 (goodTB (inTB1 c4)) rfl r1 r2 (c1 G s hC.2) (hC.1.2.2.2.2 _ c3) c5 r3, hC.1.2.2.2.2 _ c2, trivial⟩ ⟨pcBlind, fun U hU hWm => ⟨rfl, KG.warm hWm hC.2, by rw [hU]; exact hW.1⟩⟩ rfl hn hl.1 hst (lv_room (of_decide_eq_true h8)) hd hcs
    exact callW hrun hW (fun H1 locs1 hW1 => kk q r hr p e s m args below meth c H1 locs1 cells slots Q ls hC hW1 hl hcs hRet)
theorem sw_callV {k ci : Nat} {fl : List (Option Nat)} {o' : Option α} {kf : α → Option ρ} (hd : decode cc pc = .ok (.invokevirtual idx, 3)) (hc : CV own idx ci y cc' nL' ret' n) (ht : tb k = .inr (ci, fl)) (hM : MT G l y cc' nL' ret' rm' (.ref (ad G k) :: As) w' σ o') (hn : As.length = n) (hR : fitR rm' rm nL' = true) (hst : st = As.reverse ++ .ref (ad G k) :: rest) (h8 : cat8 rest = true) (hp : pc' = pc + 3)
    (kk : ∀ q, SW G l own cc nL rm w pc' L ((w' q).1.toList ++ rest) (w' q).2 (kf q)) : SW G l own cc nL rm w pc L st σ (bV o' kf) := by
  subst hp
  intro r hr p e s m args below meth c H locs cells slots Q ls hC hW hl hcs hRet
  obtain ⟨c1, c2, c3, c4, c5, c6, c7, T, N, c8⟩ := hc
  obtain ⟨r1, r2, r3⟩ := fitR_of hR
  cases o' with
  | none => cases hr
  | some q =>
    have hrun := va_runV (C := y.cls) (b := ad G k) (g := F0 m pc ls st) (rest := rest) (e := e) (below := below) (meth := meth) (locs := locs) (cells := cells) (slots := slots) hC.1 (hM q rfl) (cwV n hC.1.2.2.2.2 (goodTB (inTB4 c1 c2 c3 c4 c5)) rfl r1 r2 c6 r3) ⟨pcBlind, va_recv hC.2.1 hW.1 c8 (wd_gobj ht c7), fun U hU hWm => ⟨rfl, KG.warm hWm hC.2, by rw [hU]; exact hW.1⟩⟩ rfl hn hl.1 hst (lv_room (of_decide_eq_true h8)) hd hcs
    exact callW hrun hW (fun H1 locs1 hW1 => kk q r hr p e s m args below meth c H1 locs1 cells slots Q ls hC hW1 hl hcs hRet)
theorem bI_bV {β : Type} (o' : Option (β × St)) (kf : β → St → Option ρ) : bI o' kf = bV o' (fun q => kf q.1 q.2) := by
  cases o' with
  | none => rfl
  | some q => rfl
theorem sw_callSI {o' : Option (Int × St)} {kf : Int → St → Option ρ} (hd : decode cc pc = .ok (.invokestatic idx, 3)) (hc : CS own idx y cc' nL' ret' n) (hM : MT G l y cc' nL' ret' rm' As wI σ o') (hn : As.length = n) (hR : fitR rm' rm nL' = true) (hst : st = As.reverse ++ rest) (h8 : cat8 rest = true) (hp : pc' = pc + 3)
    (kk : ∀ v τ, SW G l own cc nL rm w pc' L (vi v :: rest) τ (kf v τ)) : SW G l own cc nL rm w pc L st σ (bI o' kf) := by
  rw [bI_bV]
  exact sw_callS hd hc hM hn hR hst h8 hp (fun q => kk q.1 q.2)
theorem sw_callSB {o' : Option (Bool × St)} {kf : Bool → St → Option ρ} (hd : decode cc pc = .ok (.invokestatic idx, 3)) (hc : CS own idx y cc' nL' ret' n) (hM : MT G l y cc' nL' ret' rm' As wB σ o') (hn : As.length = n) (hR : fitR rm' rm nL' = true) (hst : st = As.reverse ++ rest) (h8 : cat8 rest = true) (hp : pc' = pc + 3)
    (kk : ∀ v τ, SW G l own cc nL rm w pc' L (vi (bi v) :: rest) τ (kf v τ)) : SW G l own cc nL rm w pc L st σ (bI o' kf) := by
  rw [bI_bV]
  exact sw_callS hd hc hM hn hR hst h8 hp (fun q => kk q.1 q.2)
theorem sw_callSL {o' : Option (Int × St)} {kf : Int → St → Option ρ} (hd : decode cc pc = .ok (.invokestatic idx, 3)) (hc : CS own idx y cc' nL' ret' n) (hM : MT G l y cc' nL' ret' rm' As wL σ o') (hn : As.length = n) (hR : fitR rm' rm nL' = true) (hst : st = As.reverse ++ rest) (h8 : cat8 rest = true) (hp : pc' = pc + 3)
    (kk : ∀ v τ, SW G l own cc nL rm w pc' L (vl v :: rest) τ (kf v τ)) : SW G l own cc nL rm w pc L st σ (bI o' kf) := by
  rw [bI_bV]
  exact sw_callS hd hc hM hn hR hst h8 hp (fun q => kk q.1 q.2)
theorem sw_callSR {o' : Option (Nat × St)} {kf : Nat → St → Option ρ} (hd : decode cc pc = .ok (.invokestatic idx, 3)) (hc : CS own idx y cc' nL' ret' n) (hM : MT G l y cc' nL' ret' rm' As (wR G) σ o') (hn : As.length = n) (hR : fitR rm' rm nL' = true) (hst : st = As.reverse ++ rest) (h8 : cat8 rest = true) (hp : pc' = pc + 3)
    (kk : ∀ v τ, SW G l own cc nL rm w pc' L (.ref (ad G v) :: rest) τ (kf v τ)) : SW G l own cc nL rm w pc L st σ (bI o' kf) := by
  rw [bI_bV]
  exact sw_callS hd hc hM hn hR hst h8 hp (fun q => kk q.1 q.2)
theorem sw_callSV {o' : Option St} {kf : St → Option ρ} (hd : decode cc pc = .ok (.invokestatic idx, 3)) (hc : CS own idx y cc' nL' ret' n) (hM : MT G l y cc' nL' ret' rm' As wV σ o') (hn : As.length = n) (hR : fitR rm' rm nL' = true) (hst : st = As.reverse ++ rest) (h8 : cat8 rest = true) (hp : pc' = pc + 3)
    (kk : ∀ τ, SW G l own cc nL rm w pc' L rest τ (kf τ)) : SW G l own cc nL rm w pc L st σ (bV o' kf) :=
  sw_callS hd hc hM hn hR hst h8 hp (fun q => kk q)
theorem sw_callNI {host : String} {o' : Option (Int × St)} {kf : Int → St → Option ρ} (hd : decode cc pc = .ok (.invokestatic idx, 3)) (hc : CN own idx y host cc' nL' ret' n) (hM : MT G l y cc' nL' ret' rm' As wI σ o') (hn : As.length = n) (hR : fitR rm' rm nL' = true) (hst : st = As.reverse ++ rest) (h8 : cat8 rest = true) (hp : pc' = pc + 3)
    (kk : ∀ v τ, SW G l own cc nL rm w pc' L (vi v :: rest) τ (kf v τ)) : SW G l own cc nL rm w pc L st σ (bI o' kf) := by
  rw [bI_bV]
  exact sw_callN hd hc hM hn hR hst h8 hp (fun q => kk q.1 q.2)
theorem sw_callNB {host : String} {o' : Option (Bool × St)} {kf : Bool → St → Option ρ} (hd : decode cc pc = .ok (.invokestatic idx, 3)) (hc : CN own idx y host cc' nL' ret' n) (hM : MT G l y cc' nL' ret' rm' As wB σ o') (hn : As.length = n) (hR : fitR rm' rm nL' = true) (hst : st = As.reverse ++ rest) (h8 : cat8 rest = true) (hp : pc' = pc + 3)
    (kk : ∀ v τ, SW G l own cc nL rm w pc' L (vi (bi v) :: rest) τ (kf v τ)) : SW G l own cc nL rm w pc L st σ (bI o' kf) := by
  rw [bI_bV]
  exact sw_callN hd hc hM hn hR hst h8 hp (fun q => kk q.1 q.2)
theorem sw_callNL {host : String} {o' : Option (Int × St)} {kf : Int → St → Option ρ} (hd : decode cc pc = .ok (.invokestatic idx, 3)) (hc : CN own idx y host cc' nL' ret' n) (hM : MT G l y cc' nL' ret' rm' As wL σ o') (hn : As.length = n) (hR : fitR rm' rm nL' = true) (hst : st = As.reverse ++ rest) (h8 : cat8 rest = true) (hp : pc' = pc + 3)
    (kk : ∀ v τ, SW G l own cc nL rm w pc' L (vl v :: rest) τ (kf v τ)) : SW G l own cc nL rm w pc L st σ (bI o' kf) := by
  rw [bI_bV]
  exact sw_callN hd hc hM hn hR hst h8 hp (fun q => kk q.1 q.2)
theorem sw_callNR {host : String} {o' : Option (Nat × St)} {kf : Nat → St → Option ρ} (hd : decode cc pc = .ok (.invokestatic idx, 3)) (hc : CN own idx y host cc' nL' ret' n) (hM : MT G l y cc' nL' ret' rm' As (wR G) σ o') (hn : As.length = n) (hR : fitR rm' rm nL' = true) (hst : st = As.reverse ++ rest) (h8 : cat8 rest = true) (hp : pc' = pc + 3)
    (kk : ∀ v τ, SW G l own cc nL rm w pc' L (.ref (ad G v) :: rest) τ (kf v τ)) : SW G l own cc nL rm w pc L st σ (bI o' kf) := by
  rw [bI_bV]
  exact sw_callN hd hc hM hn hR hst h8 hp (fun q => kk q.1 q.2)
theorem sw_callNV {host : String} {o' : Option St} {kf : St → Option ρ} (hd : decode cc pc = .ok (.invokestatic idx, 3)) (hc : CN own idx y host cc' nL' ret' n) (hM : MT G l y cc' nL' ret' rm' As wV σ o') (hn : As.length = n) (hR : fitR rm' rm nL' = true) (hst : st = As.reverse ++ rest) (h8 : cat8 rest = true) (hp : pc' = pc + 3)
    (kk : ∀ τ, SW G l own cc nL rm w pc' L rest τ (kf τ)) : SW G l own cc nL rm w pc L st σ (bV o' kf) :=
  sw_callN hd hc hM hn hR hst h8 hp (fun q => kk q)
theorem sw_callVI {k ci : Nat} {fl : List (Option Nat)} {o' : Option (Int × St)} {kf : Int → St → Option ρ} (hd : decode cc pc = .ok (.invokevirtual idx, 3)) (hc : CV own idx ci y cc' nL' ret' n) (ht : tb k = .inr (ci, fl)) (hM : MT G l y cc' nL' ret' rm' (.ref (ad G k) :: As) wI σ o') (hn : As.length = n) (hR : fitR rm' rm nL' = true) (hst : st = As.reverse ++ .ref (ad G k) :: rest) (h8 : cat8 rest = true) (hp : pc' = pc + 3)
    (kk : ∀ v τ, SW G l own cc nL rm w pc' L (vi v :: rest) τ (kf v τ)) : SW G l own cc nL rm w pc L st σ (bI o' kf) := by
  rw [bI_bV]
  exact sw_callV hd hc ht hM hn hR hst h8 hp (fun q => kk q.1 q.2)
theorem sw_callVB {k ci : Nat} {fl : List (Option Nat)} {o' : Option (Bool × St)} {kf : Bool → St → Option ρ} (hd : decode cc pc = .ok (.invokevirtual idx, 3)) (hc : CV own idx ci y cc' nL' ret' n) (ht : tb k = .inr (ci, fl)) (hM : MT G l y cc' nL' ret' rm' (.ref (ad G k) :: As) wB σ o') (hn : As.length = n) (hR : fitR rm' rm nL' = true) (hst : st = As.reverse ++ .ref (ad G k) :: rest) (h8 : cat8 rest = true) (hp : pc' = pc + 3)
    (kk : ∀ v τ, SW G l own cc nL rm w pc' L (vi (bi v) :: rest) τ (kf v τ)) : SW G l own cc nL rm w pc L st σ (bI o' kf) := by
  rw [bI_bV]
  exact sw_callV hd hc ht hM hn hR hst h8 hp (fun q => kk q.1 q.2)
theorem sw_callVL {k ci : Nat} {fl : List (Option Nat)} {o' : Option (Int × St)} {kf : Int → St → Option ρ} (hd : decode cc pc = .ok (.invokevirtual idx, 3)) (hc : CV own idx ci y cc' nL' ret' n) (ht : tb k = .inr (ci, fl)) (hM : MT G l y cc' nL' ret' rm' (.ref (ad G k) :: As) wL σ o') (hn : As.length = n) (hR : fitR rm' rm nL' = true) (hst : st = As.reverse ++ .ref (ad G k) :: rest) (h8 : cat8 rest = true) (hp : pc' = pc + 3)
    (kk : ∀ v τ, SW G l own cc nL rm w pc' L (vl v :: rest) τ (kf v τ)) : SW G l own cc nL rm w pc L st σ (bI o' kf) := by
  rw [bI_bV]
  exact sw_callV hd hc ht hM hn hR hst h8 hp (fun q => kk q.1 q.2)
theorem sw_callVR {k ci : Nat} {fl : List (Option Nat)} {o' : Option (Nat × St)} {kf : Nat → St → Option ρ} (hd : decode cc pc = .ok (.invokevirtual idx, 3)) (hc : CV own idx ci y cc' nL' ret' n) (ht : tb k = .inr (ci, fl)) (hM : MT G l y cc' nL' ret' rm' (.ref (ad G k) :: As) (wR G) σ o') (hn : As.length = n) (hR : fitR rm' rm nL' = true) (hst : st = As.reverse ++ .ref (ad G k) :: rest) (h8 : cat8 rest = true) (hp : pc' = pc + 3)
    (kk : ∀ v τ, SW G l own cc nL rm w pc' L (.ref (ad G v) :: rest) τ (kf v τ)) : SW G l own cc nL rm w pc L st σ (bI o' kf) := by
  rw [bI_bV]
  exact sw_callV hd hc ht hM hn hR hst h8 hp (fun q => kk q.1 q.2)
theorem sw_callVV {k ci : Nat} {fl : List (Option Nat)} {o' : Option St} {kf : St → Option ρ} (hd : decode cc pc = .ok (.invokevirtual idx, 3)) (hc : CV own idx ci y cc' nL' ret' n) (ht : tb k = .inr (ci, fl)) (hM : MT G l y cc' nL' ret' rm' (.ref (ad G k) :: As) wV σ o') (hn : As.length = n) (hR : fitR rm' rm nL' = true) (hst : st = As.reverse ++ .ref (ad G k) :: rest) (h8 : cat8 rest = true) (hp : pc' = pc + 3)
    (kk : ∀ τ, SW G l own cc nL rm w pc' L rest τ (kf τ)) : SW G l own cc nL rm w pc L st σ (bV o' kf) :=
  sw_callV hd hc ht hM hn hR hst h8 hp (fun q => kk q)
end SWC
end
section
/-! ===== fields written by name; Math; arraycopy; the shapes by place ===== -/
def FU : Nat := 4000
def pf (σ : St) (k j : Nat) (x : Int) : Option St := some (up σ k j x)
def pz (σ : St) (k j : Nat) (x : Int) : Option St := if wr x = 0 ∨ wr x = 1 then some (up σ k j x) else none
def imx (x y : Int) : Int := if wr x < wr y then y else x
def imn (x y : Int) : Int := if wr y < wr x then y else x
def iab (x : Int) : Int := if 0 ≤ wr x then x else 0 - x
def cpf (σ : St) (a b n : Nat) : Option St := some (fun k j => if k = b ∧ j < n then σ a j else σ k j)
def CM (own : String) (idx : Nat) (y : MethodName) (cc : ByteArray) (n : Nat) : Prop := Cond.methodLink own idx y ∈ TB ∧ Cond.static y ∈ TB ∧ Cond.initialized "java/lang/Math" ∈ TB ∧ Cond.code y cc n (some .int) ∈ TB
def CY (own : String) (idx : Nat) : Prop := Cond.methodLink own idx arraycopyName ∈ TB ∧ Cond.native arraycopyName ∈ TB ∧ Cond.static arraycopyName ∈ TB ∧ Cond.initialized "java/lang/System" ∈ TB
def fitM (rm : Room) (n : Nat) : Bool := decide (1 ≤ rm.frames) && decide (n ≤ rm.locals)
theorem fitM_of {rm : Room} {n : Nat} (h : fitM rm n = true) : 1 ≤ rm.frames ∧ n ≤ rm.locals := by simpa [fitM] using h
theorem allTB {ws : List Cond} (h : ws.all (fun w => decide (w ∈ lw_tbl) && goodWord w) = true) : ∀ w ∈ ws, w ∈ TB := by
  intro w hw
  have h1 := List.all_eq_true.mp h w hw
  simp only [Bool.and_eq_true, decide_eq_true_eq] at h1
  exact mTB h1.1 h1.2
theorem fv_row {G : Gh} {σ σ' : St} {k : Nat} (h : σ' k = σ k) : ∀ (fl : List (Option Nat)) (j : Nat), fv G σ' k j fl = fv G σ k j fl := by
  intro fl
  induction fl with
  | nil => intro j; rfl
  | cons b fl ih => intro j; cases b <;> simp only [fv, ih, h]
theorem ent_row {G : Gh} {σ σ' : St} {k : Nat} (h : σ' k = σ k) : ent G σ' k = ent G σ k := by
  unfold ent
  cases tb k with
  | inl q => simp only [h]
  | inr q => simp only [fv_row h]
section SW5
variable {G : Gh} {l : Launch} {own : String} {cc : ByteArray} {nL : Nat} {rm : Room} {ρ : Type} {w : ρ → Option Value × St} {pc pc' : Nat} {L : List (Option Value)} {st : List Value} {σ : St} {o : Option ρ} {idx : Nat}
theorem sw_putI {k ci j : Nat} {x : Int} {fl : List (Option Nat)} {kf : St → Option ρ} (hd : decode cc pc = .ok (.putfield idx, 3)) (hF : FP own idx ci j .int) (ht : tb k = .inr (ci, fl)) (hj : fl[j]? = some none) (hp : pc' = pc + 3) (kk : ∀ τ, SW G l own cc nL rm w pc' L st τ (kf τ)) : SW G l own cc nL rm w pc L (vi x :: .ref (ad G k) :: st) σ (bV (pf σ k j x) kf) :=
  sw_puti hd hF ht hj hp (kk _)
theorem sw_putZ {k ci j : Nat} {x : Int} {fl : List (Option Nat)} {kf : St → Option ρ} (hd : decode cc pc = .ok (.putfield idx, 3)) (hF : FP own idx ci j .boolean) (ht : tb k = .inr (ci, fl)) (hj : fl[j]? = some none) (hp : pc' = pc + 3) (kk : ∀ τ, SW G l own cc nL rm w pc' L st τ (kf τ)) : SW G l own cc nL rm w pc L (vi x :: .ref (ad G k) :: st) σ (bV (pz σ k j x) kf) := by
  have h := sw_putz (σ := σ) (x := x) hd hF ht hj hp (kk (up σ k j x))
  have e : bV (pz σ k j x) kf = (if wr x = 0 ∨ wr x = 1 then kf (up σ k j x) else none) := by
    unfold pz
    by_cases hz : wr x = 0 ∨ wr x = 1
    · rw [if_pos hz, if_pos hz]; rfl
    · rw [if_neg hz, if_neg hz]; rfl
  rw [e]
  exact h
theorem sw_imx {x y : Int} (hd : decode cc pc = .ok (.invokestatic idx, 3)) (hc : CM own idx Lib.Math.max.name Lib.Math.max.code 2) (hp : pc' = pc + 3) (hM : fitM rm 21 = true) (h8 : cat8 st = true) (k : SW G l own cc nL rm w pc' L (vi (imx x y) :: st) σ o) : SW G l own cc nL rm w pc L (vi y :: vi x :: st) σ o := by
  subst hp
  intro r hr p e s m args below meth c H locs cells slots Q ls hC hW hl hcs hR
  have h := k r hr p e s m args below meth c H locs cells slots Q ls hC hW hl hcs hR
  have e : vi (imx x y) = .int (if Int32.ofInt x < Int32.ofInt y then Int32.ofInt y else Int32.ofInt x) := by
    unfold imx
    by_cases hx : wr x < wr y
    · rw [if_pos hx, if_pos ((i32_lt x y).mpr hx)]; rfl
    · rw [if_neg hx, if_neg (fun z => hx ((i32_lt x y).mp z))]; rfl
  rw [e] at h
  obtain ⟨f1, f2⟩ := fitM_of hM
  have h9 : (st.map fun v => v.category).sum ≤ 8 := of_decide_eq_true h8
  exact va_mmax hC.1.1 hC.1.2.1 (by rw [hC.1.2.2.1, hl.1]) hC.1.2.2.2.1 (hC.1.2.2.2.2 _ hc.1) (hC.1.2.2.2.2 _ hc.2.1) (hC.1.2.2.2.2 _ hc.2.2.1) (hC.1.2.2.2.2 _ hc.2.2.2) f1 (by omega) hcs.1 hcs.2 hd h
theorem sw_imn {x y : Int} (hd : decode cc pc = .ok (.invokestatic idx, 3)) (hc : CM own idx Lib.Math.min.name Lib.Math.min.code 2) (hp : pc' = pc + 3) (hM : fitM rm 21 = true) (h8 : cat8 st = true) (k : SW G l own cc nL rm w pc' L (vi (imn x y) :: st) σ o) : SW G l own cc nL rm w pc L (vi y :: vi x :: st) σ o := by
  subst hp
  intro r hr p e s m args below meth c H locs cells slots Q ls hC hW hl hcs hR
  have h := k r hr p e s m args below meth c H locs cells slots Q ls hC hW hl hcs hR
  have e : vi (imn x y) = .int (if Int32.ofInt y < Int32.ofInt x then Int32.ofInt y else Int32.ofInt x) := by
    unfold imn
    by_cases hx : wr y < wr x
    · rw [if_pos hx, if_pos ((i32_lt y x).mpr hx)]; rfl
    · rw [if_neg hx, if_neg (fun z => hx ((i32_lt y x).mp z))]; rfl
  rw [e] at h
  obtain ⟨f1, f2⟩ := fitM_of hM
  have h9 : (st.map fun v => v.category).sum ≤ 8 := of_decide_eq_true h8
  exact va_mmin hC.1.1 hC.1.2.1 (by rw [hC.1.2.2.1, hl.1]) hC.1.2.2.2.1 (hC.1.2.2.2.2 _ hc.1) (hC.1.2.2.2.2 _ hc.2.1) (hC.1.2.2.2.2 _ hc.2.2.1) (hC.1.2.2.2.2 _ hc.2.2.2) f1 (by omega) hcs.1 hcs.2 hd h
theorem sw_iab {x : Int} (hd : decode cc pc = .ok (.invokestatic idx, 3)) (hc : CM own idx Lib.Math.abs.name Lib.Math.abs.code 1) (hp : pc' = pc + 3) (hM : fitM rm 21 = true) (h8 : cat8 st = true) (k : SW G l own cc nL rm w pc' L (vi (iab x) :: st) σ o) : SW G l own cc nL rm w pc L (vi x :: st) σ o := by
  subst hp
  intro r hr p e s m args below meth c H locs cells slots Q ls hC hW hl hcs hR
  have h := k r hr p e s m args below meth c H locs cells slots Q ls hC hW hl hcs hR
  have e : vi (iab x) = .int (if 0 ≤ Int32.ofInt x then Int32.ofInt x else 0 - Int32.ofInt x) := by
    unfold iab
    by_cases hx : 0 ≤ wr x
    · rw [if_pos hx, if_pos ((i32_ge0 x).mpr hx)]; rfl
    · rw [if_neg hx, if_neg (fun z => hx ((i32_ge0 x).mp z))]
      unfold vi
      rw [Int32.ofInt_sub]
      rfl
  rw [e] at h
  obtain ⟨f1, f2⟩ := fitM_of hM
  have h9 : (st.map fun v => v.category).sum ≤ 8 := of_decide_eq_true h8
  exact va_mabs hC.1.1 hC.1.2.1 (by rw [hC.1.2.2.1, hl.1]) hC.1.2.2.2.1 (hC.1.2.2.2.2 _ hc.1) (hC.1.2.2.2.2 _ hc.2.1) (hC.1.2.2.2.2 _ hc.2.2.1) (hC.1.2.2.2.2 _ hc.2.2.2) f1 (by omega) hcs.1 hcs.2 hd h
theorem i32_clamp {n : Nat} (h : n < 2147483648) : (Int32.ofInt (n : Int)).toNatClampNeg = n := by
  show ((Int32.ofInt (n : Int)).toInt).toNat = n
  have : wr (n : Int) = (n : Int) := wr_of (by omega) (by omega)
  unfold wr at this
  rw [this]
  omega
theorem sw_acpy {a b n : Nat} {x : Int} {kf : St → Option ρ} (hd : decode cc pc = .ok (.invokestatic idx, 3)) (hc : CY own idx) (ha : tb a = .inl (0, n)) (hb : tb b = .inl (0, n)) (hx : x = (n : Int)) (hn : decide (n < 2147483648) = true) (hM : fitM rm 26 = true) (h8 : cat8 st = true) (hp : pc' = pc + 3) (kk : ∀ τ, SW G l own cc nL rm w pc' L st τ (kf τ)) : SW G l own cc nL rm w pc L (vi x :: vi 0 :: .ref (ad G b) :: vi 0 :: .ref (ad G a) :: st) σ (bV (cpf σ a b n) kf) := by
  subst hp
  subst hx
  intro r hr p e s m args below meth c H locs cells slots Q ls hC hW hl hcs hR
  obtain ⟨f1, f2⟩ := fitM_of hM
  have h9 : (st.map fun v => v.category).sum ≤ 8 := of_decide_eq_true h8
  have hn' : n < 2147483648 := of_decide_eq_true hn
  have ec := i32_clamp hn'
  have e0 : (Int32.ofInt 0).toNatClampNeg = 0 := by decide
  have hnn : ¬ Int32.ofInt (n : Int) < 0 := by
    rw [i32_lt0, wr_of (by omega) (by omega)]
    omega
  refine va_copyi hC.1.1 hC.1.2.1 (by rw [hC.1.2.2.1, hl.1]) hC.1.2.2.2.1 (hC.1.2.2.2.2 _ hc.1) (hC.1.2.2.2.2 _ hc.2.1) (hC.1.2.2.2.2 _ hc.2.2.1) (hC.1.2.2.2.2 _ hc.2.2.2) hC.2.1 hW.1 (hC.2.D σ) hW.2 a b 0 0 (wd_garr ha) (wd_garr hb) rfl rfl rfl (by decide) (by decide) hnn (by rw [ec, e0]; omega) (by rw [ec, e0]; omega) (fun i _ => rfl) f1 (by show _ + (7 + 11) ≤ _; omega) hd (fun H1 locs1 hP _ hS => ?_)
  rw [wd_set (G := G) (σ' := fun k j => if k = b ∧ j < n then σ a j else σ k j) (tb_lt hb) ?_ (fun i hi => ent_row ?_)] at hP
  · exact kk _ r hr p e s m args below meth c H1 locs1 cells slots Q ls hC ⟨hP, hS⟩ hl hcs hR
  · rw [ent_arr hb, ec, e0]
    congr 4
    funext j
    unfold va_cpy
    by_cases hj : j < n
    · simp [hj]
    · simp [hj]
  · funext j
    simp [hi]
end SW5
theorem tbk_0 : tb 0 = .inr (4, [some 1, some 11, some 21, some 31, some 41, some 43, some 47, none, none, none]) := rfl
theorem tbk_1 : tb 1 = .inr (2, sqF 1) := rfl
theorem tbk_2 : tb 2 = .inl (0, 5) := rfl
theorem tbk_3 : tb 3 = .inl (0, 5) := rfl
theorem tbk_4 : tb 4 = .inl (0, 5) := rfl
theorem tbk_5 : tb 5 = .inl (0, 4) := rfl
theorem tbk_6 : tb 6 = .inl (0, 8) := rfl
theorem tbk_7 : tb 7 = .inl (0, 8) := rfl
theorem tbk_8 : tb 8 = .inl (0, 8) := rfl
theorem tbk_9 : tb 9 = .inl (0, 8) := rfl
theorem tbk_10 : tb 10 = .inl (0, 4) := rfl
theorem tbk_11 : tb 11 = .inr (2, sqF 11) := rfl
theorem tbk_12 : tb 12 = .inl (0, 5) := rfl
theorem tbk_13 : tb 13 = .inl (0, 5) := rfl
theorem tbk_14 : tb 14 = .inl (0, 5) := rfl
theorem tbk_15 : tb 15 = .inl (0, 4) := rfl
theorem tbk_16 : tb 16 = .inl (0, 8) := rfl
theorem tbk_17 : tb 17 = .inl (0, 8) := rfl
theorem tbk_18 : tb 18 = .inl (0, 8) := rfl
theorem tbk_19 : tb 19 = .inl (0, 8) := rfl
theorem tbk_20 : tb 20 = .inl (0, 4) := rfl
theorem tbk_21 : tb 21 = .inr (2, sqF 21) := rfl
theorem tbk_22 : tb 22 = .inl (0, 5) := rfl
theorem tbk_23 : tb 23 = .inl (0, 5) := rfl
theorem tbk_24 : tb 24 = .inl (0, 5) := rfl
theorem tbk_25 : tb 25 = .inl (0, 4) := rfl
theorem tbk_26 : tb 26 = .inl (0, 8) := rfl
theorem tbk_27 : tb 27 = .inl (0, 8) := rfl
theorem tbk_28 : tb 28 = .inl (0, 8) := rfl
theorem tbk_29 : tb 29 = .inl (0, 8) := rfl
theorem tbk_30 : tb 30 = .inl (0, 4) := rfl
theorem tbk_31 : tb 31 = .inr (2, sqF 31) := rfl
theorem tbk_32 : tb 32 = .inl (0, 5) := rfl
theorem tbk_33 : tb 33 = .inl (0, 5) := rfl
theorem tbk_34 : tb 34 = .inl (0, 5) := rfl
theorem tbk_35 : tb 35 = .inl (0, 4) := rfl
theorem tbk_36 : tb 36 = .inl (0, 8) := rfl
theorem tbk_37 : tb 37 = .inl (0, 8) := rfl
theorem tbk_38 : tb 38 = .inl (0, 8) := rfl
theorem tbk_39 : tb 39 = .inl (0, 8) := rfl
theorem tbk_40 : tb 40 = .inl (0, 4) := rfl
theorem tbk_41 : tb 41 = .inr (3, [some 42, none, none, none, none, none, none, none, none, none]) := rfl
theorem tbk_42 : tb 42 = .inl (1, 160) := rfl
theorem tbk_43 : tb 43 = .inr (1, [none, some 44, some 45, some 46]) := rfl
theorem tbk_44 : tb 44 = .inl (0, 6) := rfl
theorem tbk_45 : tb 45 = .inl (0, 6) := rfl
theorem tbk_46 : tb 46 = .inl (0, 6) := rfl
theorem tbk_47 : tb 47 = .inr (0, [some 48, some 49, some 50]) := rfl
theorem tbk_48 : tb 48 = .inl (0, 4) := rfl
theorem tbk_49 : tb 49 = .inl (0, 4) := rfl
theorem tbk_50 : tb 50 = .inl (0, 160) := rfl
theorem tbk_51 : tb 51 = .inr (5, [some 52, none, some 53, none, none, none, none, some 54, none, none, none, none, none, none, none, none, some 55, some 56, none, none, none, none, some 57, none, some 58, some 59, some 60, some 61, some 62, none]) := rfl
theorem tbk_52 : tb 52 = .inl (0, 330) := rfl
theorem tbk_53 : tb 53 = .inl (0, 55) := rfl
theorem tbk_54 : tb 54 = .inl (0, 160) := rfl
theorem tbk_55 : tb 55 = .inl (0, 8) := rfl
theorem tbk_56 : tb 56 = .inl (0, 36) := rfl
theorem tbk_57 : tb 57 = .inl (0, 18) := rfl
theorem tbk_58 : tb 58 = .inl (0, 1680) := rfl
theorem tbk_59 : tb 59 = .inl (2, 2) := rfl
theorem tbk_60 : tb 60 = .inl (0, 4) := rfl
theorem tbk_61 : tb 61 = .inl (0, 4) := rfl
theorem tbk_62 : tb 62 = .inl (0, 160) := rfl
theorem sqo {q : Nat} (h : isSq q) : tb q = .inr (2, sqF q) := by rcases h with rfl | rfl | rfl | rfl <;> rfl
theorem sqa1 {q : Nat} (h : isSq q) : tb (q + 1) = .inl (0, 5) := by rcases h with rfl | rfl | rfl | rfl <;> rfl
theorem sqa2 {q : Nat} (h : isSq q) : tb (q + 2) = .inl (0, 5) := by rcases h with rfl | rfl | rfl | rfl <;> rfl
theorem sqa3 {q : Nat} (h : isSq q) : tb (q + 3) = .inl (0, 5) := by rcases h with rfl | rfl | rfl | rfl <;> rfl
theorem sqa4 {q : Nat} (h : isSq q) : tb (q + 4) = .inl (0, 4) := by rcases h with rfl | rfl | rfl | rfl <;> rfl
theorem sqa5 {q : Nat} (h : isSq q) : tb (q + 5) = .inl (0, 8) := by rcases h with rfl | rfl | rfl | rfl <;> rfl
theorem sqa6 {q : Nat} (h : isSq q) : tb (q + 6) = .inl (0, 8) := by rcases h with rfl | rfl | rfl | rfl <;> rfl
theorem sqa7 {q : Nat} (h : isSq q) : tb (q + 7) = .inl (0, 8) := by rcases h with rfl | rfl | rfl | rfl <;> rfl
theorem sqa8 {q : Nat} (h : isSq q) : tb (q + 8) = .inl (0, 8) := by rcases h with rfl | rfl | rfl | rfl <;> rfl
theorem sqa9 {q : Nat} (h : isSq q) : tb (q + 9) = .inl (0, 4) := by rcases h with rfl | rfl | rfl | rfl <;> rfl
theorem isSq_1 : isSq 1 := Or.inl rfl
theorem isSq_11 : isSq 11 := Or.inr (Or.inl rfl)
theorem isSq_21 : isSq 21 := Or.inr (Or.inr (Or.inl rfl))
theorem isSq_31 : isSq 31 := Or.inr (Or.inr (Or.inr rfl))
theorem inT0 : ∀ w ∈ u_ws RX0 TX0 3, w ∈ TB := allTB (by decide +kernel)
theorem inT1 : ∀ w ∈ u_ws RX1 TX1 4, w ∈ TB := allTB (by decide +kernel)
theorem inT2 : ∀ w ∈ u_ws RX2 TX2 15, w ∈ TB := allTB (by decide +kernel)
theorem inT3 : ∀ w ∈ u_ws RX3 TX3 10, w ∈ TB := allTB (by decide +kernel)
theorem inT4 : ∀ w ∈ u_ws RX4 TX4 10, w ∈ TB := allTB (by decide +kernel)
theorem inT5 : ∀ w ∈ u_ws RX5 TX5 30, w ∈ TB := allTB (by decide +kernel)
end
section
theorem kc_X4_241 : Cond.constant RX4 241 (Int32.ofInt 1103515245) ∈ TB := tb_at 684 (by decide +kernel) (by decide +kernel)
theorem kc_X5_237 : Cond.constant RX5 237 (Int32.ofInt 1000000) ∈ TB := tb_at 1095 (by decide +kernel) (by decide +kernel)
theorem kc_X5_261 : Cond.constant RX5 261 (Int32.ofInt 1103515245) ∈ TB := tb_at 1150 (by decide +kernel) (by decide +kernel)
theorem kc_J6_265 : Cond.constant RJ6 265 (Int32.ofInt 1431655765) ∈ TB := tb_at 446 (by decide +kernel) (by decide +kernel)
theorem kc_J6_266 : Cond.constant RJ6 266 (Int32.ofInt 858993459) ∈ TB := tb_at 447 (by decide +kernel) (by decide +kernel)
theorem kc_J6_267 : Cond.constant RJ6 267 (Int32.ofInt 252645135) ∈ TB := tb_at 448 (by decide +kernel) (by decide +kernel)
theorem kl_X4_207 : Cond.constantLong RX4 207 (Int64.ofInt (-1)) ∈ TB := tb_at 616 (by decide +kernel) (by decide +kernel)
theorem kl_X5_44 : Cond.constantLong RX5 44 (Int64.ofInt 127) ∈ TB := tb_at 854 (by decide +kernel) (by decide +kernel)
theorem kl_X5_76 : Cond.constantLong RX5 76 (Int64.ofInt 97) ∈ TB := tb_at 874 (by decide +kernel) (by decide +kernel)
theorem kl_X5_78 : Cond.constantLong RX5 78 (Int64.ofInt 122) ∈ TB := tb_at 875 (by decide +kernel) (by decide +kernel)
theorem kl_X5_80 : Cond.constantLong RX5 80 (Int64.ofInt 48) ∈ TB := tb_at 876 (by decide +kernel) (by decide +kernel)
theorem kl_X5_82 : Cond.constantLong RX5 82 (Int64.ofInt 57) ∈ TB := tb_at 877 (by decide +kernel) (by decide +kernel)
theorem kl_X5_91 : Cond.constantLong RX5 91 (Int64.ofInt 3) ∈ TB := tb_at 907 (by decide +kernel) (by decide +kernel)
theorem kl_X5_116 : Cond.constantLong RX5 116 (Int64.ofInt 6) ∈ TB := tb_at 890 (by decide +kernel) (by decide +kernel)
theorem kl_X5_137 : Cond.constantLong RX5 137 (Int64.ofInt 99) ∈ TB := tb_at 984 (by decide +kernel) (by decide +kernel)
theorem kl_X5_186 : Cond.constantLong RX5 186 (Int64.ofInt 5) ∈ TB := tb_at 958 (by decide +kernel) (by decide +kernel)
theorem kl_X5_200 : Cond.constantLong RX5 200 (Int64.ofInt 15) ∈ TB := tb_at 989 (by decide +kernel) (by decide +kernel)
theorem kl_X5_206 : Cond.constantLong RX5 206 (Int64.ofInt 9) ∈ TB := tb_at 998 (by decide +kernel) (by decide +kernel)
theorem kl_X5_211 : Cond.constantLong RX5 211 (Int64.ofInt 30) ∈ TB := tb_at 1019 (by decide +kernel) (by decide +kernel)
theorem kl_X5_226 : Cond.constantLong RX5 226 (Int64.ofInt 60) ∈ TB := tb_at 1035 (by decide +kernel) (by decide +kernel)
theorem kl_X5_238 : Cond.constantLong RX5 238 (Int64.ofInt 10) ∈ TB := tb_at 1100 (by decide +kernel) (by decide +kernel)
theorem kl_X5_248 : Cond.constantLong RX5 248 (Int64.ofInt (-1)) ∈ TB := tb_at 1108 (by decide +kernel) (by decide +kernel)
theorem kl_X5_250 : Cond.constantLong RX5 250 (Int64.ofInt 20) ∈ TB := tb_at 1113 (by decide +kernel) (by decide +kernel)
theorem kl_X5_262 : Cond.constantLong RX5 262 (Int64.ofInt 2) ∈ TB := tb_at 1163 (by decide +kernel) (by decide +kernel)
theorem fl_X4_10 : FL RX4 10 4 0 := ⟨_, _, _, rfl, by decide, by decide, inT4, tb_at 234 (by decide +kernel) (by decide +kernel)⟩
theorem fl_X4_16 : FL RX4 16 4 1 := ⟨_, _, _, rfl, by decide, by decide, inT4, tb_at 235 (by decide +kernel) (by decide +kernel)⟩
theorem fl_X4_19 : FL RX4 19 4 2 := ⟨_, _, _, rfl, by decide, by decide, inT4, tb_at 236 (by decide +kernel) (by decide +kernel)⟩
theorem fl_X4_22 : FL RX4 22 4 3 := ⟨_, _, _, rfl, by decide, by decide, inT4, tb_at 237 (by decide +kernel) (by decide +kernel)⟩
theorem fl_X4_28 : FL RX4 28 4 4 := ⟨_, _, _, rfl, by decide, by decide, inT4, tb_at 238 (by decide +kernel) (by decide +kernel)⟩
theorem fl_X4_35 : FL RX4 35 4 5 := ⟨_, _, _, rfl, by decide, by decide, inT4, tb_at 239 (by decide +kernel) (by decide +kernel)⟩
theorem fl_X4_42 : FL RX4 42 4 6 := ⟨_, _, _, rfl, by decide, by decide, inT4, tb_at 240 (by decide +kernel) (by decide +kernel)⟩
theorem fl_X4_54 : FL RX4 54 3 1 := ⟨_, _, _, rfl, by decide, by decide, inT3, tb_at 161 (by decide +kernel) (by decide +kernel)⟩
theorem fl_X4_65 : FL RX4 65 4 8 := ⟨_, _, _, rfl, by decide, by decide, inT4, tb_at 242 (by decide +kernel) (by decide +kernel)⟩
theorem fl_X4_74 : FL RX4 74 1 0 := ⟨_, _, _, rfl, by decide, by decide, inT1, tb_at 202 (by decide +kernel) (by decide +kernel)⟩
theorem fl_X4_77 : FL RX4 77 4 7 := ⟨_, _, _, rfl, by decide, by decide, inT4, tb_at 241 (by decide +kernel) (by decide +kernel)⟩
theorem fl_X4_83 : FL RX4 83 2 0 := ⟨_, _, _, rfl, by decide, by decide, inT2, tb_at 86 (by decide +kernel) (by decide +kernel)⟩
theorem fl_X4_86 : FL RX4 86 2 6 := ⟨_, _, _, rfl, by decide, by decide, inT2, tb_at 102 (by decide +kernel) (by decide +kernel)⟩
theorem fl_X4_89 : FL RX4 89 2 12 := ⟨_, _, _, rfl, by decide, by decide, inT2, tb_at 116 (by decide +kernel) (by decide +kernel)⟩
theorem fl_X4_92 : FL RX4 92 2 13 := ⟨_, _, _, rfl, by decide, by decide, inT2, tb_at 118 (by decide +kernel) (by decide +kernel)⟩
theorem fl_X4_95 : FL RX4 95 2 4 := ⟨_, _, _, rfl, by decide, by decide, inT2, tb_at 96 (by decide +kernel) (by decide +kernel)⟩
theorem fl_X4_108 : FL RX4 108 2 1 := ⟨_, _, _, rfl, by decide, by decide, inT2, tb_at 89 (by decide +kernel) (by decide +kernel)⟩
theorem fl_X4_112 : FL RX4 112 2 2 := ⟨_, _, _, rfl, by decide, by decide, inT2, tb_at 92 (by decide +kernel) (by decide +kernel)⟩
theorem fl_X4_115 : FL RX4 115 2 3 := ⟨_, _, _, rfl, by decide, by decide, inT2, tb_at 94 (by decide +kernel) (by decide +kernel)⟩
theorem fl_X4_130 : FL RX4 130 2 7 := ⟨_, _, _, rfl, by decide, by decide, inT2, tb_at 105 (by decide +kernel) (by decide +kernel)⟩
theorem fl_X4_133 : FL RX4 133 2 8 := ⟨_, _, _, rfl, by decide, by decide, inT2, tb_at 107 (by decide +kernel) (by decide +kernel)⟩
theorem fl_X4_136 : FL RX4 136 2 9 := ⟨_, _, _, rfl, by decide, by decide, inT2, tb_at 109 (by decide +kernel) (by decide +kernel)⟩
theorem fl_X4_139 : FL RX4 139 2 10 := ⟨_, _, _, rfl, by decide, by decide, inT2, tb_at 112 (by decide +kernel) (by decide +kernel)⟩
theorem fl_X4_145 : FL RX4 145 2 5 := ⟨_, _, _, rfl, by decide, by decide, inT2, tb_at 99 (by decide +kernel) (by decide +kernel)⟩
theorem fl_X4_158 : FL RX4 158 2 14 := ⟨_, _, _, rfl, by decide, by decide, inT2, tb_at 120 (by decide +kernel) (by decide +kernel)⟩
theorem fl_X4_259 : FL RX4 259 0 0 := ⟨_, _, _, rfl, by decide, by decide, inT0, tb_at 223 (by decide +kernel) (by decide +kernel)⟩
theorem fl_X4_269 : FL RX4 269 4 9 := ⟨_, _, _, rfl, by decide, by decide, inT4, tb_at 243 (by decide +kernel) (by decide +kernel)⟩
theorem fl_X4_275 : FL RX4 275 0 1 := ⟨_, _, _, rfl, by decide, by decide, inT0, tb_at 225 (by decide +kernel) (by decide +kernel)⟩
theorem fl_X0_11 : FL RX0 11 0 0 := ⟨_, _, _, rfl, by decide, by decide, inT0, tb_at 222 (by decide +kernel) (by decide +kernel)⟩
theorem fl_X0_15 : FL RX0 15 0 1 := ⟨_, _, _, rfl, by decide, by decide, inT0, tb_at 224 (by decide +kernel) (by decide +kernel)⟩
theorem fl_X0_18 : FL RX0 18 0 2 := ⟨_, _, _, rfl, by decide, by decide, inT0, tb_at 226 (by decide +kernel) (by decide +kernel)⟩
theorem fl_X1_9 : FL RX1 9 1 1 := ⟨_, _, _, rfl, by decide, by decide, inT1, tb_at 203 (by decide +kernel) (by decide +kernel)⟩
theorem fl_X1_13 : FL RX1 13 1 2 := ⟨_, _, _, rfl, by decide, by decide, inT1, tb_at 204 (by decide +kernel) (by decide +kernel)⟩
theorem fl_X1_16 : FL RX1 16 1 3 := ⟨_, _, _, rfl, by decide, by decide, inT1, tb_at 205 (by decide +kernel) (by decide +kernel)⟩
theorem fl_X1_19 : FL RX1 19 1 0 := ⟨_, _, _, rfl, by decide, by decide, inT1, tb_at 201 (by decide +kernel) (by decide +kernel)⟩
theorem fl_X1_42 : FL RX1 42 2 2 := ⟨_, _, _, rfl, by decide, by decide, inT2, tb_at 91 (by decide +kernel) (by decide +kernel)⟩
theorem fl_X2_9 : FL RX2 9 2 1 := ⟨_, _, _, rfl, by decide, by decide, inT2, tb_at 88 (by decide +kernel) (by decide +kernel)⟩
theorem fl_X2_15 : FL RX2 15 2 2 := ⟨_, _, _, rfl, by decide, by decide, inT2, tb_at 90 (by decide +kernel) (by decide +kernel)⟩
theorem fl_X2_18 : FL RX2 18 2 3 := ⟨_, _, _, rfl, by decide, by decide, inT2, tb_at 93 (by decide +kernel) (by decide +kernel)⟩
theorem fl_X2_21 : FL RX2 21 2 5 := ⟨_, _, _, rfl, by decide, by decide, inT2, tb_at 98 (by decide +kernel) (by decide +kernel)⟩
theorem fl_X2_24 : FL RX2 24 2 7 := ⟨_, _, _, rfl, by decide, by decide, inT2, tb_at 104 (by decide +kernel) (by decide +kernel)⟩
theorem fl_X2_27 : FL RX2 27 2 8 := ⟨_, _, _, rfl, by decide, by decide, inT2, tb_at 106 (by decide +kernel) (by decide +kernel)⟩
theorem fl_X2_30 : FL RX2 30 2 9 := ⟨_, _, _, rfl, by decide, by decide, inT2, tb_at 108 (by decide +kernel) (by decide +kernel)⟩
theorem fl_X2_33 : FL RX2 33 2 10 := ⟨_, _, _, rfl, by decide, by decide, inT2, tb_at 111 (by decide +kernel) (by decide +kernel)⟩
theorem fl_X2_36 : FL RX2 36 2 14 := ⟨_, _, _, rfl, by decide, by decide, inT2, tb_at 119 (by decide +kernel) (by decide +kernel)⟩
theorem fl_X2_42 : FL RX2 42 2 0 := ⟨_, _, _, rfl, by decide, by decide, inT2, tb_at 85 (by decide +kernel) (by decide +kernel)⟩
theorem fl_X2_46 : FL RX2 46 2 4 := ⟨_, _, _, rfl, by decide, by decide, inT2, tb_at 95 (by decide +kernel) (by decide +kernel)⟩
theorem fl_X2_55 : FL RX2 55 2 6 := ⟨_, _, _, rfl, by decide, by decide, inT2, tb_at 101 (by decide +kernel) (by decide +kernel)⟩
theorem fl_X2_58 : FL RX2 58 2 11 := ⟨_, _, _, rfl, by decide, by decide, inT2, tb_at 113 (by decide +kernel) (by decide +kernel)⟩
theorem fl_X2_61 : FL RX2 61 2 12 := ⟨_, _, _, rfl, by decide, by decide, inT2, tb_at 115 (by decide +kernel) (by decide +kernel)⟩
theorem fl_X2_64 : FL RX2 64 2 13 := ⟨_, _, _, rfl, by decide, by decide, inT2, tb_at 117 (by decide +kernel) (by decide +kernel)⟩
theorem fl_X3_11 : FL RX3 11 3 0 := ⟨_, _, _, rfl, by decide, by decide, inT3, tb_at 159 (by decide +kernel) (by decide +kernel)⟩
theorem fl_X3_15 : FL RX3 15 3 1 := ⟨_, _, _, rfl, by decide, by decide, inT3, tb_at 160 (by decide +kernel) (by decide +kernel)⟩
theorem fl_X3_24 : FL RX3 24 3 2 := ⟨_, _, _, rfl, by decide, by decide, inT3, tb_at 162 (by decide +kernel) (by decide +kernel)⟩
theorem fl_X3_33 : FL RX3 33 3 7 := ⟨_, _, _, rfl, by decide, by decide, inT3, tb_at 170 (by decide +kernel) (by decide +kernel)⟩
theorem fl_X3_36 : FL RX3 36 3 8 := ⟨_, _, _, rfl, by decide, by decide, inT3, tb_at 171 (by decide +kernel) (by decide +kernel)⟩
theorem fl_X3_40 : FL RX3 40 3 9 := ⟨_, _, _, rfl, by decide, by decide, inT3, tb_at 172 (by decide +kernel) (by decide +kernel)⟩
theorem fl_X3_46 : FL RX3 46 3 5 := ⟨_, _, _, rfl, by decide, by decide, inT3, tb_at 168 (by decide +kernel) (by decide +kernel)⟩
theorem fl_X3_61 : FL RX3 61 3 6 := ⟨_, _, _, rfl, by decide, by decide, inT3, tb_at 169 (by decide +kernel) (by decide +kernel)⟩
theorem fl_X3_115 : FL RX3 115 2 0 := ⟨_, _, _, rfl, by decide, by decide, inT2, tb_at 87 (by decide +kernel) (by decide +kernel)⟩
theorem fl_X3_132 : FL RX3 132 2 5 := ⟨_, _, _, rfl, by decide, by decide, inT2, tb_at 100 (by decide +kernel) (by decide +kernel)⟩
theorem fl_X3_136 : FL RX3 136 2 6 := ⟨_, _, _, rfl, by decide, by decide, inT2, tb_at 103 (by decide +kernel) (by decide +kernel)⟩
theorem fl_X3_143 : FL RX3 143 2 9 := ⟨_, _, _, rfl, by decide, by decide, inT2, tb_at 110 (by decide +kernel) (by decide +kernel)⟩
theorem fl_X5_7 : FL RX5 7 5 0 := ⟨_, _, _, rfl, by decide, by decide, inT5, tb_at 758 (by decide +kernel) (by decide +kernel)⟩
theorem fl_X5_13 : FL RX5 13 5 2 := ⟨_, _, _, rfl, by decide, by decide, inT5, tb_at 760 (by decide +kernel) (by decide +kernel)⟩
theorem fl_X5_16 : FL RX5 16 5 7 := ⟨_, _, _, rfl, by decide, by decide, inT5, tb_at 765 (by decide +kernel) (by decide +kernel)⟩
theorem fl_X5_19 : FL RX5 19 5 16 := ⟨_, _, _, rfl, by decide, by decide, inT5, tb_at 774 (by decide +kernel) (by decide +kernel)⟩
theorem fl_X5_22 : FL RX5 22 5 17 := ⟨_, _, _, rfl, by decide, by decide, inT5, tb_at 775 (by decide +kernel) (by decide +kernel)⟩
theorem fl_X5_25 : FL RX5 25 5 22 := ⟨_, _, _, rfl, by decide, by decide, inT5, tb_at 780 (by decide +kernel) (by decide +kernel)⟩
theorem fl_X5_28 : FL RX5 28 5 24 := ⟨_, _, _, rfl, by decide, by decide, inT5, tb_at 782 (by decide +kernel) (by decide +kernel)⟩
theorem fl_X5_31 : FL RX5 31 5 25 := ⟨_, _, _, rfl, by decide, by decide, inT5, tb_at 783 (by decide +kernel) (by decide +kernel)⟩
theorem fl_X5_35 : FL RX5 35 5 26 := ⟨_, _, _, rfl, by decide, by decide, inT5, tb_at 784 (by decide +kernel) (by decide +kernel)⟩
theorem fl_X5_38 : FL RX5 38 5 27 := ⟨_, _, _, rfl, by decide, by decide, inT5, tb_at 785 (by decide +kernel) (by decide +kernel)⟩
theorem fl_X5_41 : FL RX5 41 5 28 := ⟨_, _, _, rfl, by decide, by decide, inT5, tb_at 786 (by decide +kernel) (by decide +kernel)⟩
theorem fl_X5_50 : FL RX5 50 5 8 := ⟨_, _, _, rfl, by decide, by decide, inT5, tb_at 766 (by decide +kernel) (by decide +kernel)⟩
theorem fl_X5_54 : FL RX5 54 5 10 := ⟨_, _, _, rfl, by decide, by decide, inT5, tb_at 768 (by decide +kernel) (by decide +kernel)⟩
theorem fl_X5_57 : FL RX5 57 5 13 := ⟨_, _, _, rfl, by decide, by decide, inT5, tb_at 771 (by decide +kernel) (by decide +kernel)⟩
theorem fl_X5_60 : FL RX5 60 5 11 := ⟨_, _, _, rfl, by decide, by decide, inT5, tb_at 769 (by decide +kernel) (by decide +kernel)⟩
theorem fl_X5_63 : FL RX5 63 5 14 := ⟨_, _, _, rfl, by decide, by decide, inT5, tb_at 772 (by decide +kernel) (by decide +kernel)⟩
theorem fl_X5_66 : FL RX5 66 5 12 := ⟨_, _, _, rfl, by decide, by decide, inT5, tb_at 770 (by decide +kernel) (by decide +kernel)⟩
theorem fl_X5_73 : FL RX5 73 5 15 := ⟨_, _, _, rfl, by decide, by decide, inT5, tb_at 773 (by decide +kernel) (by decide +kernel)⟩
theorem fl_X5_93 : FL RX5 93 5 4 := ⟨_, _, _, rfl, by decide, by decide, inT5, tb_at 762 (by decide +kernel) (by decide +kernel)⟩
theorem fl_X5_100 : FL RX5 100 5 6 := ⟨_, _, _, rfl, by decide, by decide, inT5, tb_at 764 (by decide +kernel) (by decide +kernel)⟩
theorem fl_X5_103 : FL RX5 103 5 3 := ⟨_, _, _, rfl, by decide, by decide, inT5, tb_at 761 (by decide +kernel) (by decide +kernel)⟩
theorem fl_X5_118 : FL RX5 118 5 5 := ⟨_, _, _, rfl, by decide, by decide, inT5, tb_at 763 (by decide +kernel) (by decide +kernel)⟩
theorem fl_X5_128 : FL RX5 128 5 9 := ⟨_, _, _, rfl, by decide, by decide, inT5, tb_at 767 (by decide +kernel) (by decide +kernel)⟩
theorem fl_X5_131 : FL RX5 131 5 1 := ⟨_, _, _, rfl, by decide, by decide, inT5, tb_at 759 (by decide +kernel) (by decide +kernel)⟩
theorem fl_X5_134 : FL RX5 134 5 23 := ⟨_, _, _, rfl, by decide, by decide, inT5, tb_at 781 (by decide +kernel) (by decide +kernel)⟩
theorem fl_X5_149 : FL RX5 149 5 18 := ⟨_, _, _, rfl, by decide, by decide, inT5, tb_at 776 (by decide +kernel) (by decide +kernel)⟩
theorem fl_X5_173 : FL RX5 173 5 19 := ⟨_, _, _, rfl, by decide, by decide, inT5, tb_at 777 (by decide +kernel) (by decide +kernel)⟩
theorem fl_X5_220 : FL RX5 220 5 20 := ⟨_, _, _, rfl, by decide, by decide, inT5, tb_at 778 (by decide +kernel) (by decide +kernel)⟩
theorem fl_X5_223 : FL RX5 223 5 21 := ⟨_, _, _, rfl, by decide, by decide, inT5, tb_at 779 (by decide +kernel) (by decide +kernel)⟩
theorem fl_X5_264 : FL RX5 264 5 29 := ⟨_, _, _, rfl, by decide, by decide, inT5, tb_at 787 (by decide +kernel) (by decide +kernel)⟩
theorem fp_X4_54 : FP RX4 54 3 1 .int := ⟨_, _, _, _, rfl, by decide, by decide, inT3, tb_at 161 (by decide +kernel) (by decide +kernel), tyX3_ok, nmX3, rfl, rfl⟩
theorem fp_X4_74 : FP RX4 74 1 0 .int := ⟨_, _, _, _, rfl, by decide, by decide, inT1, tb_at 202 (by decide +kernel) (by decide +kernel), tyX1_ok, nmX1, rfl, rfl⟩
theorem fp_X4_77 : FP RX4 77 4 7 .int := ⟨_, _, _, _, rfl, by decide, by decide, inT4, tb_at 241 (by decide +kernel) (by decide +kernel), tyX4_ok, nmX4, rfl, rfl⟩
theorem fp_X4_86 : FP RX4 86 2 6 .int := ⟨_, _, _, _, rfl, by decide, by decide, inT2, tb_at 102 (by decide +kernel) (by decide +kernel), tyX2_ok, nmX2, rfl, rfl⟩
theorem fp_X4_95 : FP RX4 95 2 4 .int := ⟨_, _, _, _, rfl, by decide, by decide, inT2, tb_at 96 (by decide +kernel) (by decide +kernel), tyX2_ok, nmX2, rfl, rfl⟩
theorem fp_X4_201 : FP RX4 201 2 11 .int := ⟨_, _, _, _, rfl, by decide, by decide, inT2, tb_at 114 (by decide +kernel) (by decide +kernel), tyX2_ok, nmX2, rfl, rfl⟩
theorem fp_X4_269 : FP RX4 269 4 9 .int := ⟨_, _, _, _, rfl, by decide, by decide, inT4, tb_at 243 (by decide +kernel) (by decide +kernel), tyX4_ok, nmX4, rfl, rfl⟩
theorem fp_X1_19 : FP RX1 19 1 0 .int := ⟨_, _, _, _, rfl, by decide, by decide, inT1, tb_at 201 (by decide +kernel) (by decide +kernel), tyX1_ok, nmX1, rfl, rfl⟩
theorem fp_X2_42 : FP RX2 42 2 0 .int := ⟨_, _, _, _, rfl, by decide, by decide, inT2, tb_at 85 (by decide +kernel) (by decide +kernel), tyX2_ok, nmX2, rfl, rfl⟩
theorem fp_X2_46 : FP RX2 46 2 4 .int := ⟨_, _, _, _, rfl, by decide, by decide, inT2, tb_at 95 (by decide +kernel) (by decide +kernel), tyX2_ok, nmX2, rfl, rfl⟩
theorem fp_X2_55 : FP RX2 55 2 6 .int := ⟨_, _, _, _, rfl, by decide, by decide, inT2, tb_at 101 (by decide +kernel) (by decide +kernel), tyX2_ok, nmX2, rfl, rfl⟩
theorem fp_X2_58 : FP RX2 58 2 11 .int := ⟨_, _, _, _, rfl, by decide, by decide, inT2, tb_at 113 (by decide +kernel) (by decide +kernel), tyX2_ok, nmX2, rfl, rfl⟩
theorem fp_X2_61 : FP RX2 61 2 12 .int := ⟨_, _, _, _, rfl, by decide, by decide, inT2, tb_at 115 (by decide +kernel) (by decide +kernel), tyX2_ok, nmX2, rfl, rfl⟩
theorem fp_X2_64 : FP RX2 64 2 13 .int := ⟨_, _, _, _, rfl, by decide, by decide, inT2, tb_at 117 (by decide +kernel) (by decide +kernel), tyX2_ok, nmX2, rfl, rfl⟩
theorem fp_X3_15 : FP RX3 15 3 1 .int := ⟨_, _, _, _, rfl, by decide, by decide, inT3, tb_at 160 (by decide +kernel) (by decide +kernel), tyX3_ok, nmX3, rfl, rfl⟩
theorem fp_X3_24 : FP RX3 24 3 2 .int := ⟨_, _, _, _, rfl, by decide, by decide, inT3, tb_at 162 (by decide +kernel) (by decide +kernel), tyX3_ok, nmX3, rfl, rfl⟩
theorem fp_X3_27 : FP RX3 27 3 3 .int := ⟨_, _, _, _, rfl, by decide, by decide, inT3, tb_at 164 (by decide +kernel) (by decide +kernel), tyX3_ok, nmX3, rfl, rfl⟩
theorem fp_X3_33 : FP RX3 33 3 7 .int := ⟨_, _, _, _, rfl, by decide, by decide, inT3, tb_at 170 (by decide +kernel) (by decide +kernel), tyX3_ok, nmX3, rfl, rfl⟩
theorem fp_X3_36 : FP RX3 36 3 8 .boolean := ⟨_, _, _, _, rfl, by decide, by decide, inT3, tb_at 171 (by decide +kernel) (by decide +kernel), tyX3_ok, nmX3, rfl, rfl⟩
theorem fp_X3_40 : FP RX3 40 3 9 .int := ⟨_, _, _, _, rfl, by decide, by decide, inT3, tb_at 172 (by decide +kernel) (by decide +kernel), tyX3_ok, nmX3, rfl, rfl⟩
theorem fp_X3_46 : FP RX3 46 3 5 .int := ⟨_, _, _, _, rfl, by decide, by decide, inT3, tb_at 168 (by decide +kernel) (by decide +kernel), tyX3_ok, nmX3, rfl, rfl⟩
theorem fp_X3_61 : FP RX3 61 3 6 .int := ⟨_, _, _, _, rfl, by decide, by decide, inT3, tb_at 169 (by decide +kernel) (by decide +kernel), tyX3_ok, nmX3, rfl, rfl⟩
theorem fp_X3_129 : FP RX3 129 2 4 .int := ⟨_, _, _, _, rfl, by decide, by decide, inT2, tb_at 97 (by decide +kernel) (by decide +kernel), tyX2_ok, nmX2, rfl, rfl⟩
theorem fp_X5_50 : FP RX5 50 5 8 .int := ⟨_, _, _, _, rfl, by decide, by decide, inT5, tb_at 766 (by decide +kernel) (by decide +kernel), tyX5_ok, nmX5, rfl, rfl⟩
theorem fp_X5_54 : FP RX5 54 5 10 .int := ⟨_, _, _, _, rfl, by decide, by decide, inT5, tb_at 768 (by decide +kernel) (by decide +kernel), tyX5_ok, nmX5, rfl, rfl⟩
theorem fp_X5_57 : FP RX5 57 5 13 .int := ⟨_, _, _, _, rfl, by decide, by decide, inT5, tb_at 771 (by decide +kernel) (by decide +kernel), tyX5_ok, nmX5, rfl, rfl⟩
theorem fp_X5_60 : FP RX5 60 5 11 .int := ⟨_, _, _, _, rfl, by decide, by decide, inT5, tb_at 769 (by decide +kernel) (by decide +kernel), tyX5_ok, nmX5, rfl, rfl⟩
theorem fp_X5_63 : FP RX5 63 5 14 .int := ⟨_, _, _, _, rfl, by decide, by decide, inT5, tb_at 772 (by decide +kernel) (by decide +kernel), tyX5_ok, nmX5, rfl, rfl⟩
theorem fp_X5_66 : FP RX5 66 5 12 .int := ⟨_, _, _, _, rfl, by decide, by decide, inT5, tb_at 770 (by decide +kernel) (by decide +kernel), tyX5_ok, nmX5, rfl, rfl⟩
theorem fp_X5_73 : FP RX5 73 5 15 .int := ⟨_, _, _, _, rfl, by decide, by decide, inT5, tb_at 773 (by decide +kernel) (by decide +kernel), tyX5_ok, nmX5, rfl, rfl⟩
theorem fp_X5_93 : FP RX5 93 5 4 .int := ⟨_, _, _, _, rfl, by decide, by decide, inT5, tb_at 762 (by decide +kernel) (by decide +kernel), tyX5_ok, nmX5, rfl, rfl⟩
theorem fp_X5_100 : FP RX5 100 5 6 .int := ⟨_, _, _, _, rfl, by decide, by decide, inT5, tb_at 764 (by decide +kernel) (by decide +kernel), tyX5_ok, nmX5, rfl, rfl⟩
theorem fp_X5_103 : FP RX5 103 5 3 .int := ⟨_, _, _, _, rfl, by decide, by decide, inT5, tb_at 761 (by decide +kernel) (by decide +kernel), tyX5_ok, nmX5, rfl, rfl⟩
theorem fp_X5_118 : FP RX5 118 5 5 .boolean := ⟨_, _, _, _, rfl, by decide, by decide, inT5, tb_at 763 (by decide +kernel) (by decide +kernel), tyX5_ok, nmX5, rfl, rfl⟩
theorem fp_X5_128 : FP RX5 128 5 9 .int := ⟨_, _, _, _, rfl, by decide, by decide, inT5, tb_at 767 (by decide +kernel) (by decide +kernel), tyX5_ok, nmX5, rfl, rfl⟩
theorem fp_X5_131 : FP RX5 131 5 1 .int := ⟨_, _, _, _, rfl, by decide, by decide, inT5, tb_at 759 (by decide +kernel) (by decide +kernel), tyX5_ok, nmX5, rfl, rfl⟩
theorem fp_X5_134 : FP RX5 134 5 23 .int := ⟨_, _, _, _, rfl, by decide, by decide, inT5, tb_at 781 (by decide +kernel) (by decide +kernel), tyX5_ok, nmX5, rfl, rfl⟩
theorem fp_X5_149 : FP RX5 149 5 18 .int := ⟨_, _, _, _, rfl, by decide, by decide, inT5, tb_at 776 (by decide +kernel) (by decide +kernel), tyX5_ok, nmX5, rfl, rfl⟩
theorem fp_X5_173 : FP RX5 173 5 19 .int := ⟨_, _, _, _, rfl, by decide, by decide, inT5, tb_at 777 (by decide +kernel) (by decide +kernel), tyX5_ok, nmX5, rfl, rfl⟩
theorem fp_X5_220 : FP RX5 220 5 20 .int := ⟨_, _, _, _, rfl, by decide, by decide, inT5, tb_at 778 (by decide +kernel) (by decide +kernel), tyX5_ok, nmX5, rfl, rfl⟩
theorem fp_X5_223 : FP RX5 223 5 21 .int := ⟨_, _, _, _, rfl, by decide, by decide, inT5, tb_at 779 (by decide +kernel) (by decide +kernel), tyX5_ok, nmX5, rfl, rfl⟩
theorem fp_X5_264 : FP RX5 264 5 29 .int := ⟨_, _, _, _, rfl, by decide, by decide, inT5, tb_at 787 (by decide +kernel) (by decide +kernel), tyX5_ok, nmX5, rfl, rfl⟩
theorem cs_X4_46 : CS RX4 46 yX4_within cX4_within 3 (some .boolean) 3 := ⟨tb_at 269 (by decide +kernel) (by decide +kernel), tb_at 270 (by decide +kernel) (by decide +kernel), tb_at 50 (by decide +kernel) (by decide +kernel), tb_at 271 (by decide +kernel) (by decide +kernel), ⟨by decide, by decide, by decide +kernel⟩⟩
theorem cv_X4_50 : CV RX4 50 3 yX3_append cX3_append 2 (some .boolean) 1 := ⟨tb_at 272 (by decide +kernel) (by decide +kernel), tb_at 273 (by decide +kernel) (by decide +kernel), tb_at 274 (by decide +kernel) (by decide +kernel), tb_at 53 (by decide +kernel) (by decide +kernel), tb_at 275 (by decide +kernel) (by decide +kernel), ⟨rfl, by decide, by decide, by decide +kernel⟩, by decide, _, _, rfl⟩
theorem cv_X4_71 : CV RX4 71 2 yX2_copyFrom cX2_copyFrom 2 none 1 := ⟨tb_at 405 (by decide +kernel) (by decide +kernel), tb_at 406 (by decide +kernel) (by decide +kernel), tb_at 407 (by decide +kernel) (by decide +kernel), tb_at 51 (by decide +kernel) (by decide +kernel), tb_at 408 (by decide +kernel) (by decide +kernel), ⟨rfl, by decide, by decide, by decide +kernel⟩, by decide, _, _, rfl⟩
theorem cv_X4_98 : CV RX4 98 2 yX2_agreeing cX2_agreeing 3 (some .int) 0 := ⟨tb_at 420 (by decide +kernel) (by decide +kernel), tb_at 421 (by decide +kernel) (by decide +kernel), tb_at 422 (by decide +kernel) (by decide +kernel), tb_at 51 (by decide +kernel) (by decide +kernel), tb_at 423 (by decide +kernel) (by decide +kernel), ⟨rfl, by decide, by decide, by decide +kernel⟩, by decide, _, _, rfl⟩
theorem cv_X4_102 : CV RX4 102 2 yX2_standing cX2_standing 3 (some .int) 0 := ⟨tb_at 455 (by decide +kernel) (by decide +kernel), tb_at 456 (by decide +kernel) (by decide +kernel), tb_at 457 (by decide +kernel) (by decide +kernel), tb_at 51 (by decide +kernel) (by decide +kernel), tb_at 458 (by decide +kernel) (by decide +kernel), ⟨rfl, by decide, by decide, by decide +kernel⟩, by decide, _, _, rfl⟩
theorem cv_X4_105 : CV RX4 105 4 yX4_isRider cX4_isRider 2 (some .boolean) 1 := ⟨tb_at 470 (by decide +kernel) (by decide +kernel), tb_at 472 (by decide +kernel) (by decide +kernel), tb_at 11 (by decide +kernel) (by decide +kernel), tb_at 50 (by decide +kernel) (by decide +kernel), tb_at 473 (by decide +kernel) (by decide +kernel), ⟨rfl, by decide, by decide, by decide +kernel⟩, by decide, _, _, rfl⟩
theorem cv_X4_118 : CV RX4 118 2 yX2_readingOf cX2_readingOf 2 (some .int) 1 := ⟨tb_at 474 (by decide +kernel) (by decide +kernel), tb_at 437 (by decide +kernel) (by decide +kernel), tb_at 438 (by decide +kernel) (by decide +kernel), tb_at 51 (by decide +kernel) (by decide +kernel), tb_at 439 (by decide +kernel) (by decide +kernel), ⟨rfl, by decide, by decide, by decide +kernel⟩, by decide, _, _, rfl⟩
theorem cv_X4_122 : CV RX4 122 2 yX2_beliefOf cX2_beliefOf 6 (some .int) 2 := ⟨tb_at 475 (by decide +kernel) (by decide +kernel), tb_at 429 (by decide +kernel) (by decide +kernel), tb_at 430 (by decide +kernel) (by decide +kernel), tb_at 51 (by decide +kernel) (by decide +kernel), tb_at 431 (by decide +kernel) (by decide +kernel), ⟨rfl, by decide, by decide, by decide +kernel⟩, by decide, _, _, rfl⟩
theorem cv_X4_126 : CV RX4 126 2 yX2_holds cX2_holds 3 (some .boolean) 2 := ⟨tb_at 476 (by decide +kernel) (by decide +kernel), tb_at 460 (by decide +kernel) (by decide +kernel), tb_at 461 (by decide +kernel) (by decide +kernel), tb_at 51 (by decide +kernel) (by decide +kernel), tb_at 462 (by decide +kernel) (by decide +kernel), ⟨rfl, by decide, by decide, by decide +kernel⟩, by decide, _, _, rfl⟩
theorem cs_X4_142 : CS RX4 142 yX4_isReporter cX4_isReporter 1 (some .boolean) 1 := ⟨tb_at 485 (by decide +kernel) (by decide +kernel), tb_at 486 (by decide +kernel) (by decide +kernel), tb_at 50 (by decide +kernel) (by decide +kernel), tb_at 487 (by decide +kernel) (by decide +kernel), ⟨by decide, by decide, by decide +kernel⟩⟩
theorem cs_X4_148 : CS RX4 148 yX4_isEnd cX4_isEnd 1 (some .boolean) 1 := ⟨tb_at 492 (by decide +kernel) (by decide +kernel), tb_at 493 (by decide +kernel) (by decide +kernel), tb_at 50 (by decide +kernel) (by decide +kernel), tb_at 494 (by decide +kernel) (by decide +kernel), ⟨by decide, by decide, by decide +kernel⟩⟩
theorem cs_X4_151 : CS RX4 151 yX4_isDay cX4_isDay 1 (some .boolean) 1 := ⟨tb_at 495 (by decide +kernel) (by decide +kernel), tb_at 496 (by decide +kernel) (by decide +kernel), tb_at 50 (by decide +kernel) (by decide +kernel), tb_at 497 (by decide +kernel) (by decide +kernel), ⟨by decide, by decide, by decide +kernel⟩⟩
theorem cv_X4_154 : CV RX4 154 2 yX2_sumTrust cX2_sumTrust 4 none 2 := ⟨tb_at 498 (by decide +kernel) (by decide +kernel), tb_at 433 (by decide +kernel) (by decide +kernel), tb_at 434 (by decide +kernel) (by decide +kernel), tb_at 51 (by decide +kernel) (by decide +kernel), tb_at 435 (by decide +kernel) (by decide +kernel), ⟨rfl, by decide, by decide, by decide +kernel⟩, by decide, _, _, rfl⟩
theorem cs_X4_161 : CS RX4 161 yX4_exchange cX4_exchange 4 (some .int) 3 := ⟨tb_at 503 (by decide +kernel) (by decide +kernel), tb_at 504 (by decide +kernel) (by decide +kernel), tb_at 50 (by decide +kernel) (by decide +kernel), tb_at 505 (by decide +kernel) (by decide +kernel), ⟨by decide, by decide, by decide +kernel⟩⟩
theorem cv_X4_165 : CV RX4 165 2 yX2_addReport cX2_addReport 5 (some .boolean) 4 := ⟨tb_at 518 (by decide +kernel) (by decide +kernel), tb_at 399 (by decide +kernel) (by decide +kernel), tb_at 400 (by decide +kernel) (by decide +kernel), tb_at 51 (by decide +kernel) (by decide +kernel), tb_at 401 (by decide +kernel) (by decide +kernel), ⟨rfl, by decide, by decide, by decide +kernel⟩, by decide, _, _, rfl⟩
theorem cv_X4_169 : CV RX4 169 2 yX2_passDays cX2_passDays 6 (some .int) 1 := ⟨tb_at 527 (by decide +kernel) (by decide +kernel), tb_at 528 (by decide +kernel) (by decide +kernel), tb_at 529 (by decide +kernel) (by decide +kernel), tb_at 51 (by decide +kernel) (by decide +kernel), tb_at 530 (by decide +kernel) (by decide +kernel), ⟨rfl, by decide, by decide, by decide +kernel⟩, by decide, _, _, rfl⟩
theorem cs_X4_172 : CS RX4 172 yX4_isRunAhead cX4_isRunAhead 1 (some .boolean) 1 := ⟨tb_at 551 (by decide +kernel) (by decide +kernel), tb_at 552 (by decide +kernel) (by decide +kernel), tb_at 50 (by decide +kernel) (by decide +kernel), tb_at 553 (by decide +kernel) (by decide +kernel), ⟨by decide, by decide, by decide +kernel⟩⟩
theorem cv_X4_175 : CV RX4 175 2 yX2_passDay cX2_passDay 3 (some .int) 0 := ⟨tb_at 554 (by decide +kernel) (by decide +kernel), tb_at 532 (by decide +kernel) (by decide +kernel), tb_at 533 (by decide +kernel) (by decide +kernel), tb_at 51 (by decide +kernel) (by decide +kernel), tb_at 534 (by decide +kernel) (by decide +kernel), ⟨rfl, by decide, by decide, by decide +kernel⟩, by decide, _, _, rfl⟩
theorem cs_X4_178 : CS RX4 178 yX4_isChoice cX4_isChoice 1 (some .boolean) 1 := ⟨tb_at 559 (by decide +kernel) (by decide +kernel), tb_at 560 (by decide +kernel) (by decide +kernel), tb_at 50 (by decide +kernel) (by decide +kernel), tb_at 561 (by decide +kernel) (by decide +kernel), ⟨by decide, by decide, by decide +kernel⟩⟩
theorem cv_X4_181 : CV RX4 181 2 yX2_isContent cX2_isContent 3 (some .boolean) 1 := ⟨tb_at 570 (by decide +kernel) (by decide +kernel), tb_at 425 (by decide +kernel) (by decide +kernel), tb_at 426 (by decide +kernel) (by decide +kernel), tb_at 51 (by decide +kernel) (by decide +kernel), tb_at 427 (by decide +kernel) (by decide +kernel), ⟨rfl, by decide, by decide, by decide +kernel⟩, by decide, _, _, rfl⟩
theorem cs_X4_184 : CS RX4 184 yX4_reading cX4_reading 4 (some .int) 2 := ⟨tb_at 575 (by decide +kernel) (by decide +kernel), tb_at 441 (by decide +kernel) (by decide +kernel), tb_at 50 (by decide +kernel) (by decide +kernel), tb_at 442 (by decide +kernel) (by decide +kernel), ⟨by decide, by decide, by decide +kernel⟩⟩
theorem cs_X4_187 : CS RX4 187 yX4_legsDown cX4_legsDown 1 (some .int) 1 := ⟨tb_at 580 (by decide +kernel) (by decide +kernel), tb_at 464 (by decide +kernel) (by decide +kernel), tb_at 50 (by decide +kernel) (by decide +kernel), tb_at 465 (by decide +kernel) (by decide +kernel), ⟨by decide, by decide, by decide +kernel⟩⟩
theorem cm_X4_190 : CM RX4 190 Lib.Math.max.name Lib.Math.max.code 2 := ⟨tb_at 452 (by decide +kernel) (by decide +kernel), tb_at 453 (by decide +kernel) (by decide +kernel), tb_at 63 (by decide +kernel) (by decide +kernel), tb_at 454 (by decide +kernel) (by decide +kernel)⟩
theorem cm_X4_195 : CM RX4 195 Lib.Math.min.name Lib.Math.min.code 2 := ⟨tb_at 449 (by decide +kernel) (by decide +kernel), tb_at 450 (by decide +kernel) (by decide +kernel), tb_at 63 (by decide +kernel) (by decide +kernel), tb_at 451 (by decide +kernel) (by decide +kernel)⟩
theorem cv_X4_198 : CV RX4 198 4 yX4_agreeingBehind cX4_agreeingBehind 2 (some .int) 1 := ⟨tb_at 593 (by decide +kernel) (by decide +kernel), tb_at 595 (by decide +kernel) (by decide +kernel), tb_at 13 (by decide +kernel) (by decide +kernel), tb_at 50 (by decide +kernel) (by decide +kernel), tb_at 596 (by decide +kernel) (by decide +kernel), ⟨rfl, by decide, by decide, by decide +kernel⟩, by decide, _, _, rfl⟩
theorem cs_X4_204 : CS RX4 204 yX4_isOdds cX4_isOdds 1 (some .boolean) 1 := ⟨tb_at 613 (by decide +kernel) (by decide +kernel), tb_at 614 (by decide +kernel) (by decide +kernel), tb_at 50 (by decide +kernel) (by decide +kernel), tb_at 615 (by decide +kernel) (by decide +kernel), ⟨by decide, by decide, by decide +kernel⟩⟩
theorem cv_X4_209 : CV RX4 209 2 yX2_reportsOn cX2_reportsOn 4 (some .int) 1 := ⟨tb_at 617 (by decide +kernel) (by decide +kernel), tb_at 618 (by decide +kernel) (by decide +kernel), tb_at 619 (by decide +kernel) (by decide +kernel), tb_at 51 (by decide +kernel) (by decide +kernel), tb_at 620 (by decide +kernel) (by decide +kernel), ⟨rfl, by decide, by decide, by decide +kernel⟩, by decide, _, _, rfl⟩
theorem cs_X4_212 : CS RX4 212 yX4_oddsOf cX4_oddsOf 4 (some .long) 3 := ⟨tb_at 621 (by decide +kernel) (by decide +kernel), tb_at 622 (by decide +kernel) (by decide +kernel), tb_at 50 (by decide +kernel) (by decide +kernel), tb_at 623 (by decide +kernel) (by decide +kernel), ⟨by decide, by decide, by decide +kernel⟩⟩
theorem cs_X4_216 : CS RX4 216 yJ6_bitCount_0f7a4 cJ6_bitCount_0f7a4 1 (some .int) 1 := ⟨tb_at 443 (by decide +kernel) (by decide +kernel), tb_at 444 (by decide +kernel) (by decide +kernel), tb_at 62 (by decide +kernel) (by decide +kernel), tb_at 445 (by decide +kernel) (by decide +kernel), ⟨by decide, by decide, by decide +kernel⟩⟩
theorem cs_X4_221 : CS RX4 221 yX4_power cX4_power 5 (some .long) 2 := ⟨tb_at 624 (by decide +kernel) (by decide +kernel), tb_at 625 (by decide +kernel) (by decide +kernel), tb_at 50 (by decide +kernel) (by decide +kernel), tb_at 626 (by decide +kernel) (by decide +kernel), ⟨by decide, by decide, by decide +kernel⟩⟩
theorem cs_X4_225 : CS RX4 225 yX4_lowestTerms cX4_lowestTerms 12 (some .long) 3 := ⟨tb_at 627 (by decide +kernel) (by decide +kernel), tb_at 628 (by decide +kernel) (by decide +kernel), tb_at 50 (by decide +kernel) (by decide +kernel), tb_at 629 (by decide +kernel) (by decide +kernel), ⟨by decide, by decide, by decide +kernel⟩⟩
theorem cv_X4_229 : CV RX4 229 4 yX4_clangsByOdds cX4_clangsByOdds 8 (some .long) 3 := ⟨tb_at 634 (by decide +kernel) (by decide +kernel), tb_at 636 (by decide +kernel) (by decide +kernel), tb_at 14 (by decide +kernel) (by decide +kernel), tb_at 50 (by decide +kernel) (by decide +kernel), tb_at 637 (by decide +kernel) (by decide +kernel), ⟨rfl, by decide, by decide, by decide +kernel⟩, by decide, _, _, rfl⟩
theorem cv_X4_232 : CV RX4 232 1 yX1_append cX1_append 4 (some .boolean) 3 := ⟨tb_at 642 (by decide +kernel) (by decide +kernel), tb_at 643 (by decide +kernel) (by decide +kernel), tb_at 644 (by decide +kernel) (by decide +kernel), tb_at 54 (by decide +kernel) (by decide +kernel), tb_at 645 (by decide +kernel) (by decide +kernel), ⟨rfl, by decide, by decide, by decide +kernel⟩, by decide, _, _, rfl⟩
theorem cv_X4_234 : CV RX4 234 1 yX1_comeTrueIn cX1_comeTrueIn 4 (some .boolean) 1 := ⟨tb_at 654 (by decide +kernel) (by decide +kernel), tb_at 655 (by decide +kernel) (by decide +kernel), tb_at 656 (by decide +kernel) (by decide +kernel), tb_at 54 (by decide +kernel) (by decide +kernel), tb_at 657 (by decide +kernel) (by decide +kernel), ⟨rfl, by decide, by decide, by decide +kernel⟩, by decide, _, _, rfl⟩
theorem cv_X4_238 : CV RX4 238 4 yX4_fittingUps cX4_fittingUps 4 (some .int) 1 := ⟨tb_at 672 (by decide +kernel) (by decide +kernel), tb_at 674 (by decide +kernel) (by decide +kernel), tb_at 17 (by decide +kernel) (by decide +kernel), tb_at 50 (by decide +kernel) (by decide +kernel), tb_at 675 (by decide +kernel) (by decide +kernel), ⟨rfl, by decide, by decide, by decide +kernel⟩, by decide, _, _, rfl⟩
theorem cs_X4_242 : CS RX4 242 yX4_isImage cX4_isImage 1 (some .boolean) 1 := ⟨tb_at 689 (by decide +kernel) (by decide +kernel), tb_at 690 (by decide +kernel) (by decide +kernel), tb_at 50 (by decide +kernel) (by decide +kernel), tb_at 691 (by decide +kernel) (by decide +kernel), ⟨by decide, by decide, by decide +kernel⟩⟩
theorem cv_X4_245 : CV RX4 245 4 yX4_image cX4_image 2 (some (.object "HorseSigns$Square")) 1 := ⟨tb_at 692 (by decide +kernel) (by decide +kernel), tb_at 694 (by decide +kernel) (by decide +kernel), tb_at 18 (by decide +kernel) (by decide +kernel), tb_at 50 (by decide +kernel) (by decide +kernel), tb_at 695 (by decide +kernel) (by decide +kernel), ⟨rfl, by decide, by decide, by decide +kernel⟩, by decide, _, _, rfl⟩
theorem cv_X4_249 : CV RX4 249 0 yX0_isSheet cX0_isSheet 2 (some .boolean) 1 := ⟨tb_at 704 (by decide +kernel) (by decide +kernel), tb_at 705 (by decide +kernel) (by decide +kernel), tb_at 706 (by decide +kernel) (by decide +kernel), tb_at 55 (by decide +kernel) (by decide +kernel), tb_at 707 (by decide +kernel) (by decide +kernel), ⟨rfl, by decide, by decide, by decide +kernel⟩, by decide, _, _, rfl⟩
theorem cv_X4_252 : CV RX4 252 0 yX0_isLane cX0_isLane 2 (some .boolean) 1 := ⟨tb_at 708 (by decide +kernel) (by decide +kernel), tb_at 709 (by decide +kernel) (by decide +kernel), tb_at 710 (by decide +kernel) (by decide +kernel), tb_at 55 (by decide +kernel) (by decide +kernel), tb_at 711 (by decide +kernel) (by decide +kernel), ⟨rfl, by decide, by decide, by decide +kernel⟩, by decide, _, _, rfl⟩
theorem cv_X4_255 : CV RX4 255 0 yX0_renew cX0_renew 5 none 3 := ⟨tb_at 712 (by decide +kernel) (by decide +kernel), tb_at 713 (by decide +kernel) (by decide +kernel), tb_at 714 (by decide +kernel) (by decide +kernel), tb_at 55 (by decide +kernel) (by decide +kernel), tb_at 715 (by decide +kernel) (by decide +kernel), ⟨rfl, by decide, by decide, by decide +kernel⟩, by decide, _, _, rfl⟩
theorem cv_X4_262 : CV RX4 262 0 yX0_faultOf cX0_faultOf 5 (some .int) 4 := ⟨tb_at 720 (by decide +kernel) (by decide +kernel), tb_at 721 (by decide +kernel) (by decide +kernel), tb_at 722 (by decide +kernel) (by decide +kernel), tb_at 55 (by decide +kernel) (by decide +kernel), tb_at 723 (by decide +kernel) (by decide +kernel), ⟨rfl, by decide, by decide, by decide +kernel⟩, by decide, _, _, rfl⟩
theorem cv_X4_266 : CV RX4 266 0 yX0_put cX0_put 5 none 3 := ⟨tb_at 724 (by decide +kernel) (by decide +kernel), tb_at 725 (by decide +kernel) (by decide +kernel), tb_at 726 (by decide +kernel) (by decide +kernel), tb_at 55 (by decide +kernel) (by decide +kernel), tb_at 727 (by decide +kernel) (by decide +kernel), ⟨rfl, by decide, by decide, by decide +kernel⟩, by decide, _, _, rfl⟩
theorem cv_X4_272 : CV RX4 272 4 yX4_sendFrom cX4_sendFrom 3 (some .int) 2 := ⟨tb_at 732 (by decide +kernel) (by decide +kernel), tb_at 734 (by decide +kernel) (by decide +kernel), tb_at 19 (by decide +kernel) (by decide +kernel), tb_at 50 (by decide +kernel) (by decide +kernel), tb_at 735 (by decide +kernel) (by decide +kernel), ⟨rfl, by decide, by decide, by decide +kernel⟩, by decide, _, _, rfl⟩
theorem cs_X4_278 : CS RX4 278 yX4_sumOfFirst cX4_sumOfFirst 4 (some .int) 2 := ⟨tb_at 749 (by decide +kernel) (by decide +kernel), tb_at 750 (by decide +kernel) (by decide +kernel), tb_at 50 (by decide +kernel) (by decide +kernel), tb_at 751 (by decide +kernel) (by decide +kernel), ⟨by decide, by decide, by decide +kernel⟩⟩
theorem cv_X4_282 : CV RX4 282 0 yX0_cell cX0_cell 3 (some .int) 2 := ⟨tb_at 736 (by decide +kernel) (by decide +kernel), tb_at 737 (by decide +kernel) (by decide +kernel), tb_at 738 (by decide +kernel) (by decide +kernel), tb_at 55 (by decide +kernel) (by decide +kernel), tb_at 739 (by decide +kernel) (by decide +kernel), ⟨rfl, by decide, by decide, by decide +kernel⟩, by decide, _, _, rfl⟩
theorem cv_X4_285 : CV RX4 285 4 yX4_send cX4_send 5 (some .int) 4 := ⟨tb_at 740 (by decide +kernel) (by decide +kernel), tb_at 515 (by decide +kernel) (by decide +kernel), tb_at 516 (by decide +kernel) (by decide +kernel), tb_at 50 (by decide +kernel) (by decide +kernel), tb_at 517 (by decide +kernel) (by decide +kernel), ⟨rfl, by decide, by decide, by decide +kernel⟩, by decide, _, _, rfl⟩
theorem cv_X1_23 : CV RX1 23 1 yX1_lastDay cX1_lastDay 3 (some .int) 0 := ⟨tb_at 658 (by decide +kernel) (by decide +kernel), tb_at 660 (by decide +kernel) (by decide +kernel), tb_at 15 (by decide +kernel) (by decide +kernel), tb_at 54 (by decide +kernel) (by decide +kernel), tb_at 661 (by decide +kernel) (by decide +kernel), ⟨rfl, by decide, by decide, by decide +kernel⟩, by decide, _, _, rfl⟩
theorem cv_X1_27 : CV RX1 27 1 yX1_areTrueOn cX1_areTrueOn 4 (some .boolean) 2 := ⟨tb_at 663 (by decide +kernel) (by decide +kernel), tb_at 665 (by decide +kernel) (by decide +kernel), tb_at 16 (by decide +kernel) (by decide +kernel), tb_at 54 (by decide +kernel) (by decide +kernel), tb_at 666 (by decide +kernel) (by decide +kernel), ⟨rfl, by decide, by decide, by decide +kernel⟩, by decide, _, _, rfl⟩
theorem cv_X1_31 : CV RX1 31 2 yX2_passDay cX2_passDay 3 (some .int) 0 := ⟨tb_at 667 (by decide +kernel) (by decide +kernel), tb_at 532 (by decide +kernel) (by decide +kernel), tb_at 533 (by decide +kernel) (by decide +kernel), tb_at 51 (by decide +kernel) (by decide +kernel), tb_at 534 (by decide +kernel) (by decide +kernel), ⟨rfl, by decide, by decide, by decide +kernel⟩, by decide, _, _, rfl⟩
theorem cm_X1_36 : CM RX1 36 Lib.Math.max.name Lib.Math.max.code 2 := ⟨tb_at 662 (by decide +kernel) (by decide +kernel), tb_at 453 (by decide +kernel) (by decide +kernel), tb_at 63 (by decide +kernel) (by decide +kernel), tb_at 454 (by decide +kernel) (by decide +kernel)⟩
theorem cs_X2_49 : CS RX2 49 yJ7_fill_53178 cJ7_fill_53178 4 none 2 := ⟨tb_at 82 (by decide +kernel) (by decide +kernel), tb_at 83 (by decide +kernel) (by decide +kernel), tb_at 52 (by decide +kernel) (by decide +kernel), tb_at 84 (by decide +kernel) (by decide +kernel), ⟨by decide, by decide, by decide +kernel⟩⟩
theorem cy_X2_67 : CY RX2 67 := ⟨tb_at 409 (by decide +kernel) (by decide +kernel), tb_at 411 (by decide +kernel) (by decide +kernel), tb_at 410 (by decide +kernel) (by decide +kernel), tb_at 61 (by decide +kernel) (by decide +kernel)⟩
theorem cn_X2_73 : CN RX2 73 yX4_reading "HorseSigns" cX4_reading 4 (some .int) 2 := ⟨fun _ _ h => h.2.2.1, tb_at 441 (by decide +kernel) (by decide +kernel), tb_at 50 (by decide +kernel) (by decide +kernel), tb_at 442 (by decide +kernel) (by decide +kernel), ⟨by decide, by decide, by decide +kernel⟩⟩
theorem cn_X2_77 : CN RX2 77 yX4_legsDown "HorseSigns" cX4_legsDown 1 (some .int) 1 := ⟨fun _ _ h => h.2.2.2, tb_at 464 (by decide +kernel) (by decide +kernel), tb_at 50 (by decide +kernel) (by decide +kernel), tb_at 465 (by decide +kernel) (by decide +kernel), ⟨by decide, by decide, by decide +kernel⟩⟩
theorem cv_X2_81 : CV RX2 81 2 yX2_sumTrust cX2_sumTrust 4 none 2 := ⟨tb_at 432 (by decide +kernel) (by decide +kernel), tb_at 433 (by decide +kernel) (by decide +kernel), tb_at 434 (by decide +kernel) (by decide +kernel), tb_at 51 (by decide +kernel) (by decide +kernel), tb_at 435 (by decide +kernel) (by decide +kernel), ⟨rfl, by decide, by decide, by decide +kernel⟩, by decide, _, _, rfl⟩
theorem cv_X2_85 : CV RX2 85 2 yX2_beliefOf cX2_beliefOf 6 (some .int) 2 := ⟨tb_at 428 (by decide +kernel) (by decide +kernel), tb_at 429 (by decide +kernel) (by decide +kernel), tb_at 430 (by decide +kernel) (by decide +kernel), tb_at 51 (by decide +kernel) (by decide +kernel), tb_at 431 (by decide +kernel) (by decide +kernel), ⟨rfl, by decide, by decide, by decide +kernel⟩, by decide, _, _, rfl⟩
theorem cv_X2_88 : CV RX2 88 2 yX2_readingOf cX2_readingOf 2 (some .int) 1 := ⟨tb_at 436 (by decide +kernel) (by decide +kernel), tb_at 437 (by decide +kernel) (by decide +kernel), tb_at 438 (by decide +kernel) (by decide +kernel), tb_at 51 (by decide +kernel) (by decide +kernel), tb_at 439 (by decide +kernel) (by decide +kernel), ⟨rfl, by decide, by decide, by decide +kernel⟩, by decide, _, _, rfl⟩
theorem cv_X2_91 : CV RX2 91 2 yX2_isContent cX2_isContent 3 (some .boolean) 1 := ⟨tb_at 424 (by decide +kernel) (by decide +kernel), tb_at 425 (by decide +kernel) (by decide +kernel), tb_at 426 (by decide +kernel) (by decide +kernel), tb_at 51 (by decide +kernel) (by decide +kernel), tb_at 427 (by decide +kernel) (by decide +kernel), ⟨rfl, by decide, by decide, by decide +kernel⟩, by decide, _, _, rfl⟩
theorem cv_X2_95 : CV RX2 95 2 yX2_holds cX2_holds 3 (some .boolean) 2 := ⟨tb_at 459 (by decide +kernel) (by decide +kernel), tb_at 460 (by decide +kernel) (by decide +kernel), tb_at 461 (by decide +kernel) (by decide +kernel), tb_at 51 (by decide +kernel) (by decide +kernel), tb_at 462 (by decide +kernel) (by decide +kernel), ⟨rfl, by decide, by decide, by decide +kernel⟩, by decide, _, _, rfl⟩
theorem cm_X2_99 : CM RX2 99 Lib.Math.abs.name Lib.Math.abs.code 1 := ⟨tb_at 539 (by decide +kernel) (by decide +kernel), tb_at 540 (by decide +kernel) (by decide +kernel), tb_at 63 (by decide +kernel) (by decide +kernel), tb_at 541 (by decide +kernel) (by decide +kernel)⟩
theorem cv_X2_104 : CV RX2 104 2 yX2_moveHoof cX2_moveHoof 6 (some .int) 1 := ⟨tb_at 535 (by decide +kernel) (by decide +kernel), tb_at 536 (by decide +kernel) (by decide +kernel), tb_at 537 (by decide +kernel) (by decide +kernel), tb_at 51 (by decide +kernel) (by decide +kernel), tb_at 538 (by decide +kernel) (by decide +kernel), ⟨rfl, by decide, by decide, by decide +kernel⟩, by decide, _, _, rfl⟩
theorem cm_X2_107 : CM RX2 107 Lib.Math.min.name Lib.Math.min.code 2 := ⟨tb_at 542 (by decide +kernel) (by decide +kernel), tb_at 450 (by decide +kernel) (by decide +kernel), tb_at 63 (by decide +kernel) (by decide +kernel), tb_at 451 (by decide +kernel) (by decide +kernel)⟩
theorem cv_X2_110 : CV RX2 110 2 yX2_passDay cX2_passDay 3 (some .int) 0 := ⟨tb_at 531 (by decide +kernel) (by decide +kernel), tb_at 532 (by decide +kernel) (by decide +kernel), tb_at 533 (by decide +kernel) (by decide +kernel), tb_at 51 (by decide +kernel) (by decide +kernel), tb_at 534 (by decide +kernel) (by decide +kernel), ⟨rfl, by decide, by decide, by decide +kernel⟩, by decide, _, _, rfl⟩
theorem cv_X2_114 : CV RX2 114 2 yX2_dayOfNextReport cX2_dayOfNextReport 4 (some .int) 1 := ⟨tb_at 543 (by decide +kernel) (by decide +kernel), tb_at 545 (by decide +kernel) (by decide +kernel), tb_at 12 (by decide +kernel) (by decide +kernel), tb_at 51 (by decide +kernel) (by decide +kernel), tb_at 546 (by decide +kernel) (by decide +kernel), ⟨rfl, by decide, by decide, by decide +kernel⟩, by decide, _, _, rfl⟩
theorem cv_X3_43 : CV RX3 43 3 yX3_take cX3_take 2 none 0 := ⟨tb_at 289 (by decide +kernel) (by decide +kernel), tb_at 291 (by decide +kernel) (by decide +kernel), tb_at 0 (by decide +kernel) (by decide +kernel), tb_at 53 (by decide +kernel) (by decide +kernel), tb_at 292 (by decide +kernel) (by decide +kernel), ⟨rfl, by decide, by decide, by decide +kernel⟩, by decide, _, _, rfl⟩
theorem cv_X3_57 : CV RX3 57 3 yX3_fail cX3_fail 3 none 2 := ⟨tb_at 303 (by decide +kernel) (by decide +kernel), tb_at 305 (by decide +kernel) (by decide +kernel), tb_at 2 (by decide +kernel) (by decide +kernel), tb_at 53 (by decide +kernel) (by decide +kernel), tb_at 306 (by decide +kernel) (by decide +kernel), ⟨rfl, by decide, by decide, by decide +kernel⟩, by decide, _, _, rfl⟩
theorem cv_X3_64 : CV RX3 64 3 yX3_byteAt cX3_byteAt 2 (some .int) 1 := ⟨tb_at 293 (by decide +kernel) (by decide +kernel), tb_at 295 (by decide +kernel) (by decide +kernel), tb_at 1 (by decide +kernel) (by decide +kernel), tb_at 53 (by decide +kernel) (by decide +kernel), tb_at 296 (by decide +kernel) (by decide +kernel), ⟨rfl, by decide, by decide, by decide +kernel⟩, by decide, _, _, rfl⟩
theorem cs_X3_68 : CS RX3 68 yX3_isLetter cX3_isLetter 1 (some .boolean) 1 := ⟨tb_at 297 (by decide +kernel) (by decide +kernel), tb_at 298 (by decide +kernel) (by decide +kernel), tb_at 53 (by decide +kernel) (by decide +kernel), tb_at 299 (by decide +kernel) (by decide +kernel), ⟨by decide, by decide, by decide +kernel⟩⟩
theorem cs_X3_72 : CS RX3 72 yX3_isFigure cX3_isFigure 1 (some .boolean) 1 := ⟨tb_at 300 (by decide +kernel) (by decide +kernel), tb_at 301 (by decide +kernel) (by decide +kernel), tb_at 53 (by decide +kernel) (by decide +kernel), tb_at 302 (by decide +kernel) (by decide +kernel), ⟨by decide, by decide, by decide +kernel⟩⟩
theorem cv_X3_118 : CV RX3 118 3 yX3_takeNumber cX3_takeNumber 5 (some .int) 2 := ⟨tb_at 368 (by decide +kernel) (by decide +kernel), tb_at 370 (by decide +kernel) (by decide +kernel), tb_at 6 (by decide +kernel) (by decide +kernel), tb_at 53 (by decide +kernel) (by decide +kernel), tb_at 371 (by decide +kernel) (by decide +kernel), ⟨rfl, by decide, by decide, by decide +kernel⟩, by decide, _, _, rfl⟩
theorem cv_X3_122 : CV RX3 122 3 yX3_takeSemicolon cX3_takeSemicolon 1 none 0 := ⟨tb_at 372 (by decide +kernel) (by decide +kernel), tb_at 374 (by decide +kernel) (by decide +kernel), tb_at 7 (by decide +kernel) (by decide +kernel), tb_at 53 (by decide +kernel) (by decide +kernel), tb_at 375 (by decide +kernel) (by decide +kernel), ⟨rfl, by decide, by decide, by decide +kernel⟩, by decide, _, _, rfl⟩
theorem cv_X3_125 : CV RX3 125 2 yX2_addRider cX2_addRider 4 (some .boolean) 3 := ⟨tb_at 376 (by decide +kernel) (by decide +kernel), tb_at 377 (by decide +kernel) (by decide +kernel), tb_at 378 (by decide +kernel) (by decide +kernel), tb_at 51 (by decide +kernel) (by decide +kernel), tb_at 379 (by decide +kernel) (by decide +kernel), ⟨rfl, by decide, by decide, by decide +kernel⟩, by decide, _, _, rfl⟩
theorem cv_X3_139 : CV RX3 139 2 yX2_addReport cX2_addReport 5 (some .boolean) 4 := ⟨tb_at 398 (by decide +kernel) (by decide +kernel), tb_at 399 (by decide +kernel) (by decide +kernel), tb_at 400 (by decide +kernel) (by decide +kernel), tb_at 51 (by decide +kernel) (by decide +kernel), tb_at 401 (by decide +kernel) (by decide +kernel), ⟨rfl, by decide, by decide, by decide +kernel⟩, by decide, _, _, rfl⟩
theorem cs_X5_46 : CS RX5 46 yX5_in cX5_in 6 (some .boolean) 3 := ⟨tb_at 855 (by decide +kernel) (by decide +kernel), tb_at 856 (by decide +kernel) (by decide +kernel), tb_at 56 (by decide +kernel) (by decide +kernel), tb_at 857 (by decide +kernel) (by decide +kernel), ⟨by decide, by decide, by decide +kernel⟩⟩
theorem cv_X5_69 : CV RX5 69 5 yX5_byteAt cX5_byteAt 2 (some .int) 1 := ⟨tb_at 870 (by decide +kernel) (by decide +kernel), tb_at 872 (by decide +kernel) (by decide +kernel), tb_at 21 (by decide +kernel) (by decide +kernel), tb_at 56 (by decide +kernel) (by decide +kernel), tb_at 873 (by decide +kernel) (by decide +kernel), ⟨rfl, by decide, by decide, by decide +kernel⟩, by decide, _, _, rfl⟩
theorem cv_X5_84 : CV RX5 84 5 yX5_fails cX5_fails 2 none 1 := ⟨tb_at 878 (by decide +kernel) (by decide +kernel), tb_at 880 (by decide +kernel) (by decide +kernel), tb_at 22 (by decide +kernel) (by decide +kernel), tb_at 56 (by decide +kernel) (by decide +kernel), tb_at 881 (by decide +kernel) (by decide +kernel), ⟨rfl, by decide, by decide, by decide +kernel⟩, by decide, _, _, rfl⟩
theorem cv_X5_88 : CV RX5 88 5 yX5_step cX5_step 2 none 0 := ⟨tb_at 866 (by decide +kernel) (by decide +kernel), tb_at 868 (by decide +kernel) (by decide +kernel), tb_at 20 (by decide +kernel) (by decide +kernel), tb_at 56 (by decide +kernel) (by decide +kernel), tb_at 869 (by decide +kernel) (by decide +kernel), ⟨rfl, by decide, by decide, by decide +kernel⟩, by decide, _, _, rfl⟩
theorem cv_X5_96 : CV RX5 96 5 yX5_number cX5_number 4 (some .int) 2 := ⟨tb_at 895 (by decide +kernel) (by decide +kernel), tb_at 897 (by decide +kernel) (by decide +kernel), tb_at 26 (by decide +kernel) (by decide +kernel), tb_at 56 (by decide +kernel) (by decide +kernel), tb_at 898 (by decide +kernel) (by decide +kernel), ⟨rfl, by decide, by decide, by decide +kernel⟩, by decide, _, _, rfl⟩
theorem cv_X5_106 : CV RX5 106 5 yX5_readReport cX5_readReport 3 none 0 := ⟨tb_at 899 (by decide +kernel) (by decide +kernel), tb_at 901 (by decide +kernel) (by decide +kernel), tb_at 27 (by decide +kernel) (by decide +kernel), tb_at 56 (by decide +kernel) (by decide +kernel), tb_at 902 (by decide +kernel) (by decide +kernel), ⟨rfl, by decide, by decide, by decide +kernel⟩, by decide, _, _, rfl⟩
theorem cv_X5_109 : CV RX5 109 5 yX5_readTrust cX5_readTrust 2 none 0 := ⟨tb_at 903 (by decide +kernel) (by decide +kernel), tb_at 905 (by decide +kernel) (by decide +kernel), tb_at 28 (by decide +kernel) (by decide +kernel), tb_at 56 (by decide +kernel) (by decide +kernel), tb_at 906 (by decide +kernel) (by decide +kernel), ⟨rfl, by decide, by decide, by decide +kernel⟩, by decide, _, _, rfl⟩
theorem cv_X5_112 : CV RX5 112 5 yX5_nameHere cX5_nameHere 4 (some .int) 0 := ⟨tb_at 886 (by decide +kernel) (by decide +kernel), tb_at 888 (by decide +kernel) (by decide +kernel), tb_at 24 (by decide +kernel) (by decide +kernel), tb_at 56 (by decide +kernel) (by decide +kernel), tb_at 889 (by decide +kernel) (by decide +kernel), ⟨rfl, by decide, by decide, by decide +kernel⟩, by decide, _, _, rfl⟩
theorem cv_X5_122 : CV RX5 122 5 yX5_readMore cX5_readMore 2 none 1 := ⟨tb_at 891 (by decide +kernel) (by decide +kernel), tb_at 893 (by decide +kernel) (by decide +kernel), tb_at 25 (by decide +kernel) (by decide +kernel), tb_at 56 (by decide +kernel) (by decide +kernel), tb_at 894 (by decide +kernel) (by decide +kernel), ⟨rfl, by decide, by decide, by decide +kernel⟩, by decide, _, _, rfl⟩
theorem cv_X5_125 : CV RX5 125 5 yX5_readLine cX5_readLine 2 none 0 := ⟨tb_at 882 (by decide +kernel) (by decide +kernel), tb_at 884 (by decide +kernel) (by decide +kernel), tb_at 23 (by decide +kernel) (by decide +kernel), tb_at 56 (by decide +kernel) (by decide +kernel), tb_at 885 (by decide +kernel) (by decide +kernel), ⟨rfl, by decide, by decide, by decide +kernel⟩, by decide, _, _, rfl⟩
theorem cs_X5_139 : CS RX5 139 yX5_legsOf cX5_legsOf 1 (some .int) 1 := ⟨tb_at 924 (by decide +kernel) (by decide +kernel), tb_at 925 (by decide +kernel) (by decide +kernel), tb_at 56 (by decide +kernel) (by decide +kernel), tb_at 926 (by decide +kernel) (by decide +kernel), ⟨by decide, by decide, by decide +kernel⟩⟩
theorem cs_X5_142 : CS RX5 142 yX5_readsOf cX5_readsOf 4 (some .int) 2 := ⟨tb_at 947 (by decide +kernel) (by decide +kernel), tb_at 948 (by decide +kernel) (by decide +kernel), tb_at 56 (by decide +kernel) (by decide +kernel), tb_at 949 (by decide +kernel) (by decide +kernel), ⟨by decide, by decide, by decide +kernel⟩⟩
theorem cv_X5_145 : CV RX5 145 5 yX5_isUpright cX5_isUpright 4 (some .boolean) 3 := ⟨tb_at 920 (by decide +kernel) (by decide +kernel), tb_at 922 (by decide +kernel) (by decide +kernel), tb_at 30 (by decide +kernel) (by decide +kernel), tb_at 56 (by decide +kernel) (by decide +kernel), tb_at 923 (by decide +kernel) (by decide +kernel), ⟨rfl, by decide, by decide, by decide +kernel⟩, by decide, _, _, rfl⟩
theorem cv_X5_152 : CV RX5 152 5 yX5_toldOn cX5_toldOn 8 (some .int) 4 := ⟨tb_at 939 (by decide +kernel) (by decide +kernel), tb_at 941 (by decide +kernel) (by decide +kernel), tb_at 34 (by decide +kernel) (by decide +kernel), tb_at 56 (by decide +kernel) (by decide +kernel), tb_at 942 (by decide +kernel) (by decide +kernel), ⟨rfl, by decide, by decide, by decide +kernel⟩, by decide, _, _, rfl⟩
theorem cv_X5_156 : CV RX5 156 5 yX5_believedOn cX5_believedOn 8 (some .int) 3 := ⟨tb_at 935 (by decide +kernel) (by decide +kernel), tb_at 937 (by decide +kernel) (by decide +kernel), tb_at 33 (by decide +kernel) (by decide +kernel), tb_at 56 (by decide +kernel) (by decide +kernel), tb_at 938 (by decide +kernel) (by decide +kernel), ⟨rfl, by decide, by decide, by decide +kernel⟩, by decide, _, _, rfl⟩
theorem cv_X5_160 : CV RX5 160 5 yX5_readsOn cX5_readsOn 3 (some .int) 2 := ⟨tb_at 943 (by decide +kernel) (by decide +kernel), tb_at 945 (by decide +kernel) (by decide +kernel), tb_at 35 (by decide +kernel) (by decide +kernel), tb_at 56 (by decide +kernel) (by decide +kernel), tb_at 946 (by decide +kernel) (by decide +kernel), ⟨rfl, by decide, by decide, by decide +kernel⟩, by decide, _, _, rfl⟩
theorem cs_X5_163 : CS RX5 163 yX5_apart cX5_apart 2 (some .int) 2 := ⟨tb_at 1028 (by decide +kernel) (by decide +kernel), tb_at 1029 (by decide +kernel) (by decide +kernel), tb_at 56 (by decide +kernel) (by decide +kernel), tb_at 1030 (by decide +kernel) (by decide +kernel), ⟨by decide, by decide, by decide +kernel⟩⟩
theorem cv_X5_166 : CV RX5 166 5 yX5_agreesOn cX5_agreesOn 4 (some .boolean) 2 := ⟨tb_at 931 (by decide +kernel) (by decide +kernel), tb_at 933 (by decide +kernel) (by decide +kernel), tb_at 32 (by decide +kernel) (by decide +kernel), tb_at 56 (by decide +kernel) (by decide +kernel), tb_at 934 (by decide +kernel) (by decide +kernel), ⟨rfl, by decide, by decide, by decide +kernel⟩, by decide, _, _, rfl⟩
theorem cv_X5_170 : CV RX5 170 5 yX5_legOn cX5_legOn 8 (some .int) 2 := ⟨tb_at 1024 (by decide +kernel) (by decide +kernel), tb_at 1026 (by decide +kernel) (by decide +kernel), tb_at 41 (by decide +kernel) (by decide +kernel), tb_at 56 (by decide +kernel) (by decide +kernel), tb_at 1027 (by decide +kernel) (by decide +kernel), ⟨rfl, by decide, by decide, by decide +kernel⟩, by decide, _, _, rfl⟩
theorem cv_X5_176 : CV RX5 176 5 yX5_standsOn cX5_standsOn 3 (some .boolean) 2 := ⟨tb_at 916 (by decide +kernel) (by decide +kernel), tb_at 918 (by decide +kernel) (by decide +kernel), tb_at 29 (by decide +kernel) (by decide +kernel), tb_at 56 (by decide +kernel) (by decide +kernel), tb_at 919 (by decide +kernel) (by decide +kernel), ⟨rfl, by decide, by decide, by decide +kernel⟩, by decide, _, _, rfl⟩
theorem cv_X5_179 : CV RX5 179 5 yX5_agreeOn cX5_agreeOn 4 (some .int) 1 := ⟨tb_at 927 (by decide +kernel) (by decide +kernel), tb_at 929 (by decide +kernel) (by decide +kernel), tb_at 31 (by decide +kernel) (by decide +kernel), tb_at 56 (by decide +kernel) (by decide +kernel), tb_at 930 (by decide +kernel) (by decide +kernel), ⟨rfl, by decide, by decide, by decide +kernel⟩, by decide, _, _, rfl⟩
theorem cv_X5_182 : CV RX5 182 5 yX5_isRider cX5_isRider 2 (some .boolean) 1 := ⟨tb_at 954 (by decide +kernel) (by decide +kernel), tb_at 956 (by decide +kernel) (by decide +kernel), tb_at 36 (by decide +kernel) (by decide +kernel), tb_at 56 (by decide +kernel) (by decide +kernel), tb_at 957 (by decide +kernel) (by decide +kernel), ⟨rfl, by decide, by decide, by decide +kernel⟩, by decide, _, _, rfl⟩
theorem cv_X5_188 : CV RX5 188 5 yX5_isReport cX5_isReport 2 (some .boolean) 1 := ⟨tb_at 963 (by decide +kernel) (by decide +kernel), tb_at 965 (by decide +kernel) (by decide +kernel), tb_at 37 (by decide +kernel) (by decide +kernel), tb_at 56 (by decide +kernel) (by decide +kernel), tb_at 966 (by decide +kernel) (by decide +kernel), ⟨rfl, by decide, by decide, by decide +kernel⟩, by decide, _, _, rfl⟩
theorem cs_X5_191 : CS RX5 191 yX5_isReporter cX5_isReporter 1 (some .boolean) 1 := ⟨tb_at 971 (by decide +kernel) (by decide +kernel), tb_at 972 (by decide +kernel) (by decide +kernel), tb_at 56 (by decide +kernel) (by decide +kernel), tb_at 973 (by decide +kernel) (by decide +kernel), ⟨by decide, by decide, by decide +kernel⟩⟩
theorem cs_X5_194 : CS RX5 194 yX5_isEnd cX5_isEnd 1 (some .boolean) 1 := ⟨tb_at 978 (by decide +kernel) (by decide +kernel), tb_at 979 (by decide +kernel) (by decide +kernel), tb_at 56 (by decide +kernel) (by decide +kernel), tb_at 980 (by decide +kernel) (by decide +kernel), ⟨by decide, by decide, by decide +kernel⟩⟩
theorem cs_X5_197 : CS RX5 197 yX5_isDay cX5_isDay 1 (some .boolean) 1 := ⟨tb_at 981 (by decide +kernel) (by decide +kernel), tb_at 982 (by decide +kernel) (by decide +kernel), tb_at 56 (by decide +kernel) (by decide +kernel), tb_at 983 (by decide +kernel) (by decide +kernel), ⟨by decide, by decide, by decide +kernel⟩⟩
theorem cv_X5_202 : CV RX5 202 5 yX5_puts cX5_puts 6 (some .int) 4 := ⟨tb_at 990 (by decide +kernel) (by decide +kernel), tb_at 992 (by decide +kernel) (by decide +kernel), tb_at 38 (by decide +kernel) (by decide +kernel), tb_at 56 (by decide +kernel) (by decide +kernel), tb_at 993 (by decide +kernel) (by decide +kernel), ⟨rfl, by decide, by decide, by decide +kernel⟩, by decide, _, _, rfl⟩
theorem cv_X5_208 : CV RX5 208 5 yX5_sends cX5_sends 6 (some .int) 4 := ⟨tb_at 1007 (by decide +kernel) (by decide +kernel), tb_at 1009 (by decide +kernel) (by decide +kernel), tb_at 39 (by decide +kernel) (by decide +kernel), tb_at 56 (by decide +kernel) (by decide +kernel), tb_at 1010 (by decide +kernel) (by decide +kernel), ⟨rfl, by decide, by decide, by decide +kernel⟩, by decide, _, _, rfl⟩
theorem cv_X5_213 : CV RX5 213 5 yX5_dayOn cX5_dayOn 4 none 1 := ⟨tb_at 1020 (by decide +kernel) (by decide +kernel), tb_at 1022 (by decide +kernel) (by decide +kernel), tb_at 40 (by decide +kernel) (by decide +kernel), tb_at 56 (by decide +kernel) (by decide +kernel), tb_at 1023 (by decide +kernel) (by decide +kernel), ⟨rfl, by decide, by decide, by decide +kernel⟩, by decide, _, _, rfl⟩
theorem cv_X5_216 : CV RX5 216 5 yX5_copies cX5_copies 4 none 2 := ⟨tb_at 1040 (by decide +kernel) (by decide +kernel), tb_at 1042 (by decide +kernel) (by decide +kernel), tb_at 43 (by decide +kernel) (by decide +kernel), tb_at 56 (by decide +kernel) (by decide +kernel), tb_at 1043 (by decide +kernel) (by decide +kernel), ⟨rfl, by decide, by decide, by decide +kernel⟩, by decide, _, _, rfl⟩
theorem cv_X5_228 : CV RX5 228 5 yX5_daysGo cX5_daysGo 5 (some .int) 2 := ⟨tb_at 1036 (by decide +kernel) (by decide +kernel), tb_at 1038 (by decide +kernel) (by decide +kernel), tb_at 42 (by decide +kernel) (by decide +kernel), tb_at 56 (by decide +kernel) (by decide +kernel), tb_at 1039 (by decide +kernel) (by decide +kernel), ⟨rfl, by decide, by decide, by decide +kernel⟩, by decide, _, _, rfl⟩
theorem cs_X5_231 : CS RX5 231 yX5_bitsOf cX5_bitsOf 3 (some .int) 1 := ⟨tb_at 1080 (by decide +kernel) (by decide +kernel), tb_at 1081 (by decide +kernel) (by decide +kernel), tb_at 56 (by decide +kernel) (by decide +kernel), tb_at 1082 (by decide +kernel) (by decide +kernel), ⟨by decide, by decide, by decide +kernel⟩⟩
theorem cv_X5_234 : CV RX5 234 5 yX5_agreeBehind cX5_agreeBehind 3 (some .int) 2 := ⟨tb_at 1076 (by decide +kernel) (by decide +kernel), tb_at 1078 (by decide +kernel) (by decide +kernel), tb_at 44 (by decide +kernel) (by decide +kernel), tb_at 56 (by decide +kernel) (by decide +kernel), tb_at 1079 (by decide +kernel) (by decide +kernel), ⟨rfl, by decide, by decide, by decide +kernel⟩, by decide, _, _, rfl⟩
theorem cs_X5_240 : CS RX5 240 yX5_lowest cX5_lowest 11 (some .long) 3 := ⟨tb_at 1105 (by decide +kernel) (by decide +kernel), tb_at 1106 (by decide +kernel) (by decide +kernel), tb_at 56 (by decide +kernel) (by decide +kernel), tb_at 1107 (by decide +kernel) (by decide +kernel), ⟨by decide, by decide, by decide +kernel⟩⟩
theorem cv_X5_244 : CV RX5 244 5 yX5_byFalse cX5_byFalse 14 (some .long) 5 := ⟨tb_at 1101 (by decide +kernel) (by decide +kernel), tb_at 1103 (by decide +kernel) (by decide +kernel), tb_at 45 (by decide +kernel) (by decide +kernel), tb_at 56 (by decide +kernel) (by decide +kernel), tb_at 1104 (by decide +kernel) (by decide +kernel), ⟨rfl, by decide, by decide, by decide +kernel⟩, by decide, _, _, rfl⟩
theorem cv_X5_252 : CV RX5 252 5 yX5_isAsSeen cX5_isAsSeen 5 (some .boolean) 1 := ⟨tb_at 1126 (by decide +kernel) (by decide +kernel), tb_at 1128 (by decide +kernel) (by decide +kernel), tb_at 46 (by decide +kernel) (by decide +kernel), tb_at 56 (by decide +kernel) (by decide +kernel), tb_at 1129 (by decide +kernel) (by decide +kernel), ⟨rfl, by decide, by decide, by decide +kernel⟩, by decide, _, _, rfl⟩
theorem cv_X5_255 : CV RX5 255 5 yX5_upsOf cX5_upsOf 5 (some .int) 1 := ⟨tb_at 1134 (by decide +kernel) (by decide +kernel), tb_at 1136 (by decide +kernel) (by decide +kernel), tb_at 47 (by decide +kernel) (by decide +kernel), tb_at 56 (by decide +kernel) (by decide +kernel), tb_at 1137 (by decide +kernel) (by decide +kernel), ⟨rfl, by decide, by decide, by decide +kernel⟩, by decide, _, _, rfl⟩
theorem cv_X5_258 : CV RX5 258 5 yX5_worstAt cX5_worstAt 7 (some .int) 2 := ⟨tb_at 1142 (by decide +kernel) (by decide +kernel), tb_at 1144 (by decide +kernel) (by decide +kernel), tb_at 48 (by decide +kernel) (by decide +kernel), tb_at 56 (by decide +kernel) (by decide +kernel), tb_at 1145 (by decide +kernel) (by decide +kernel), ⟨rfl, by decide, by decide, by decide +kernel⟩, by decide, _, _, rfl⟩
end
section
section GEN
variable {G : Gh} {l : Launch}
def rm_J7_fill_53178 : Room := { frames := 0, cells := 0, slots := 0, locals := 0 }
def f_J7_fill_53178_5 (a0 : Nat) (n0 : Nat)  : Nat → Int → Int → Int → St → Option (St)
  | 0, _, _, _, _ => none
  | n + 1, x1, x2, x3, σ =>
    if wr x2 < wr x3 then
      bV (sv σ a0 n0 x2 x1) fun s13 => (f_J7_fill_53178_5 a0 n0 n) x1 (x2 + 1) x3 s13
    else
      some σ
set_option maxRecDepth 20000 in
theorem s_J7_fill_53178_5 (a0 : Nat) (n0 : Nat) (ht0 : tb a0 = .inl (0, n0))   : ∀ (n : Nat) (x1 x2 x3 : Int) (σ : St), SW G l RJ7 cJ7_fill_53178 4 rm_J7_fill_53178 wV 5 [some (.ref (ad G a0)), some (vi x1), some (vi x2), some (vi x3)] [] σ (f_J7_fill_53178_5 a0 n0 n x1 x2 x3 σ) := by
  intro n
  induction n with
  | zero => intro x1 x2 x3 σ; exact sw_none
  | succ n ih =>
    intro x1 x2 x3 σ
    rw [f_J7_fill_53178_5]
    refine sw_iload_n (pc' := 6) dJ7_fill_53178_5 rfl rfl ?_
    refine sw_iload_n (pc' := 7) dJ7_fill_53178_6 rfl rfl ?_
    refine sw_icmp_ge (tgt := 20) (pc' := 10) dJ7_fill_53178_7 (by decide) rfl (fun _ => ?_) (fun _ => ?_)
    · refine sw_aload_n (pc' := 11) dJ7_fill_53178_10 rfl rfl ?_
      refine sw_iload_n (pc' := 12) dJ7_fill_53178_11 rfl rfl ?_
      refine sw_iload_n (pc' := 13) dJ7_fill_53178_12 rfl rfl ?_
      refine sw_iast (pc' := 14) dJ7_fill_53178_13 (ht0) rfl (fun s13 => ?_)
      refine sw_iinc (pc' := 17) (x := x2) (L' := [some (.ref (ad G a0)), some (vi x1), some (vi (x2 + 1)), some (vi x3)]) dJ7_fill_53178_14 rfl (by decide) rfl rfl rfl ?_
      refine sw_goto (pc' := 5) dJ7_fill_53178_17 (by decide) ?_
      exact (ih) x1 (x2 + 1) x3 s13
    · exact sw_vret dJ7_fill_53178_20
def f_J7_fill_53178 (a0 : Nat) (n0 : Nat) (x1 : Int) (σ : St) : Option (St) :=
  f_J7_fill_53178_5 a0 n0 FU x1 0 (n0 : Int) σ
set_option maxRecDepth 20000 in
theorem m_J7_fill_53178 (a0 : Nat) (n0 : Nat) (x1 : Int) (ht0 : tb a0 = .inl (0, n0)) (σ : St) : MT G l yJ7_fill_53178 cJ7_fill_53178 4 none rm_J7_fill_53178 [.ref (ad G a0), vi x1] wV σ (f_J7_fill_53178 a0 n0 x1 σ) := by
  refine mt_V (L := [some (.ref (ad G a0)), some (vi x1), none, none]) rfl (Nat.le_of_ble_eq_true rfl) rfl ?_
  show SW G l RJ7 cJ7_fill_53178 4 rm_J7_fill_53178 wV 0 [some (.ref (ad G a0)), some (vi x1), none, none] [] σ (f_J7_fill_53178 a0 n0 x1 σ)
  unfold f_J7_fill_53178
  refine sw_iconst (pc' := 1) dJ7_fill_53178_0 rfl ?_
  refine sw_istore_n (pc' := 2) (x := 0) (L' := [some (.ref (ad G a0)), some (vi x1), some (vi 0), none]) dJ7_fill_53178_1 rfl (by decide) rfl rfl ?_
  refine sw_aload_n (pc' := 3) dJ7_fill_53178_2 rfl rfl ?_
  refine sw_alen (pc' := 4) dJ7_fill_53178_3 (ht0) (by decide) rfl ?_
  refine sw_istore_n (pc' := 5) (x := (n0 : Int)) (L' := [some (.ref (ad G a0)), some (vi x1), some (vi 0), some (vi (n0 : Int))]) dJ7_fill_53178_4 rfl (by decide) rfl rfl ?_
  exact s_J7_fill_53178_5 a0 n0 ht0 FU x1 0 (n0 : Int) σ
def rm_J6_bitCount_0f7a4 : Room := { frames := 0, cells := 0, slots := 0, locals := 0 }
def f_J6_bitCount_0f7a4 (x0 : Int) (σ : St) : Option (Int × St) :=
  some ((iad (((iad (((iad (x0 - (iad (ius x0 1) 1431655765)) 858993459) + (iad (ius (x0 - (iad (ius x0 1) 1431655765)) 2) 858993459)) + (ius ((iad (x0 - (iad (ius x0 1) 1431655765)) 858993459) + (iad (ius (x0 - (iad (ius x0 1) 1431655765)) 2) 858993459)) 4)) 252645135) + (ius (iad (((iad (x0 - (iad (ius x0 1) 1431655765)) 858993459) + (iad (ius (x0 - (iad (ius x0 1) 1431655765)) 2) 858993459)) + (ius ((iad (x0 - (iad (ius x0 1) 1431655765)) 858993459) + (iad (ius (x0 - (iad (ius x0 1) 1431655765)) 2) 858993459)) 4)) 252645135) 8)) + (ius ((iad (((iad (x0 - (iad (ius x0 1) 1431655765)) 858993459) + (iad (ius (x0 - (iad (ius x0 1) 1431655765)) 2) 858993459)) + (ius ((iad (x0 - (iad (ius x0 1) 1431655765)) 858993459) + (iad (ius (x0 - (iad (ius x0 1) 1431655765)) 2) 858993459)) 4)) 252645135) + (ius (iad (((iad (x0 - (iad (ius x0 1) 1431655765)) 858993459) + (iad (ius (x0 - (iad (ius x0 1) 1431655765)) 2) 858993459)) + (ius ((iad (x0 - (iad (ius x0 1) 1431655765)) 858993459) + (iad (ius (x0 - (iad (ius x0 1) 1431655765)) 2) 858993459)) 4)) 252645135) 8)) 16)) 63), σ)
set_option maxRecDepth 20000 in
theorem m_J6_bitCount_0f7a4 (x0 : Int)  (σ : St) : MT G l yJ6_bitCount_0f7a4 cJ6_bitCount_0f7a4 1 (some .int) rm_J6_bitCount_0f7a4 [vi x0] wI σ (f_J6_bitCount_0f7a4 x0 σ) := by
  refine mt_I (L := [some (vi x0)]) rfl (Nat.le_of_ble_eq_true rfl) rfl ?_
  show SW G l RJ6 cJ6_bitCount_0f7a4 1 rm_J6_bitCount_0f7a4 wI 0 [some (vi x0)] [] σ (f_J6_bitCount_0f7a4 x0 σ)
  unfold f_J6_bitCount_0f7a4
  refine sw_iload_n (pc' := 1) dJ6_bitCount_0f7a4_0 rfl rfl ?_
  refine sw_iload_n (pc' := 2) dJ6_bitCount_0f7a4_1 rfl rfl ?_
  refine sw_iconst (pc' := 3) dJ6_bitCount_0f7a4_2 rfl ?_
  refine sw_iushr (pc' := 4) dJ6_bitCount_0f7a4_3 rfl ?_
  refine sw_ldcw (n := 1431655765) (pc' := 7) dJ6_bitCount_0f7a4_4 kc_J6_265 rfl ?_
  refine sw_iand (pc' := 8) dJ6_bitCount_0f7a4_7 rfl ?_
  refine sw_isub (pc' := 9) dJ6_bitCount_0f7a4_8 rfl ?_
  refine sw_istore_n (pc' := 10) (x := (x0 - (iad (ius x0 1) 1431655765))) (L' := [some (vi (x0 - (iad (ius x0 1) 1431655765)))]) dJ6_bitCount_0f7a4_9 rfl (by decide) rfl rfl ?_
  refine sw_iload_n (pc' := 11) dJ6_bitCount_0f7a4_10 rfl rfl ?_
  refine sw_ldcw (n := 858993459) (pc' := 14) dJ6_bitCount_0f7a4_11 kc_J6_266 rfl ?_
  refine sw_iand (pc' := 15) dJ6_bitCount_0f7a4_14 rfl ?_
  refine sw_iload_n (pc' := 16) dJ6_bitCount_0f7a4_15 rfl rfl ?_
  refine sw_iconst (pc' := 17) dJ6_bitCount_0f7a4_16 rfl ?_
  refine sw_iushr (pc' := 18) dJ6_bitCount_0f7a4_17 rfl ?_
  refine sw_ldcw (n := 858993459) (pc' := 21) dJ6_bitCount_0f7a4_18 kc_J6_266 rfl ?_
  refine sw_iand (pc' := 22) dJ6_bitCount_0f7a4_21 rfl ?_
  refine sw_iadd (pc' := 23) dJ6_bitCount_0f7a4_22 rfl ?_
  refine sw_istore_n (pc' := 24) (x := ((iad (x0 - (iad (ius x0 1) 1431655765)) 858993459) + (iad (ius (x0 - (iad (ius x0 1) 1431655765)) 2) 858993459))) (L' := [some (vi ((iad (x0 - (iad (ius x0 1) 1431655765)) 858993459) + (iad (ius (x0 - (iad (ius x0 1) 1431655765)) 2) 858993459)))]) dJ6_bitCount_0f7a4_23 rfl (by decide) rfl rfl ?_
  refine sw_iload_n (pc' := 25) dJ6_bitCount_0f7a4_24 rfl rfl ?_
  refine sw_iload_n (pc' := 26) dJ6_bitCount_0f7a4_25 rfl rfl ?_
  refine sw_iconst (pc' := 27) dJ6_bitCount_0f7a4_26 rfl ?_
  refine sw_iushr (pc' := 28) dJ6_bitCount_0f7a4_27 rfl ?_
  refine sw_iadd (pc' := 29) dJ6_bitCount_0f7a4_28 rfl ?_
  refine sw_ldcw (n := 252645135) (pc' := 32) dJ6_bitCount_0f7a4_29 kc_J6_267 rfl ?_
  refine sw_iand (pc' := 33) dJ6_bitCount_0f7a4_32 rfl ?_
  refine sw_istore_n (pc' := 34) (x := (iad (((iad (x0 - (iad (ius x0 1) 1431655765)) 858993459) + (iad (ius (x0 - (iad (ius x0 1) 1431655765)) 2) 858993459)) + (ius ((iad (x0 - (iad (ius x0 1) 1431655765)) 858993459) + (iad (ius (x0 - (iad (ius x0 1) 1431655765)) 2) 858993459)) 4)) 252645135)) (L' := [some (vi (iad (((iad (x0 - (iad (ius x0 1) 1431655765)) 858993459) + (iad (ius (x0 - (iad (ius x0 1) 1431655765)) 2) 858993459)) + (ius ((iad (x0 - (iad (ius x0 1) 1431655765)) 858993459) + (iad (ius (x0 - (iad (ius x0 1) 1431655765)) 2) 858993459)) 4)) 252645135))]) dJ6_bitCount_0f7a4_33 rfl (by decide) rfl rfl ?_
  refine sw_iload_n (pc' := 35) dJ6_bitCount_0f7a4_34 rfl rfl ?_
  refine sw_iload_n (pc' := 36) dJ6_bitCount_0f7a4_35 rfl rfl ?_
  refine sw_bipush (pc' := 38) dJ6_bitCount_0f7a4_36 rfl rfl ?_
  refine sw_iushr (pc' := 39) dJ6_bitCount_0f7a4_38 rfl ?_
  refine sw_iadd (pc' := 40) dJ6_bitCount_0f7a4_39 rfl ?_
  refine sw_istore_n (pc' := 41) (x := ((iad (((iad (x0 - (iad (ius x0 1) 1431655765)) 858993459) + (iad (ius (x0 - (iad (ius x0 1) 1431655765)) 2) 858993459)) + (ius ((iad (x0 - (iad (ius x0 1) 1431655765)) 858993459) + (iad (ius (x0 - (iad (ius x0 1) 1431655765)) 2) 858993459)) 4)) 252645135) + (ius (iad (((iad (x0 - (iad (ius x0 1) 1431655765)) 858993459) + (iad (ius (x0 - (iad (ius x0 1) 1431655765)) 2) 858993459)) + (ius ((iad (x0 - (iad (ius x0 1) 1431655765)) 858993459) + (iad (ius (x0 - (iad (ius x0 1) 1431655765)) 2) 858993459)) 4)) 252645135) 8))) (L' := [some (vi ((iad (((iad (x0 - (iad (ius x0 1) 1431655765)) 858993459) + (iad (ius (x0 - (iad (ius x0 1) 1431655765)) 2) 858993459)) + (ius ((iad (x0 - (iad (ius x0 1) 1431655765)) 858993459) + (iad (ius (x0 - (iad (ius x0 1) 1431655765)) 2) 858993459)) 4)) 252645135) + (ius (iad (((iad (x0 - (iad (ius x0 1) 1431655765)) 858993459) + (iad (ius (x0 - (iad (ius x0 1) 1431655765)) 2) 858993459)) + (ius ((iad (x0 - (iad (ius x0 1) 1431655765)) 858993459) + (iad (ius (x0 - (iad (ius x0 1) 1431655765)) 2) 858993459)) 4)) 252645135) 8)))]) dJ6_bitCount_0f7a4_40 rfl (by decide) rfl rfl ?_
  refine sw_iload_n (pc' := 42) dJ6_bitCount_0f7a4_41 rfl rfl ?_
  refine sw_iload_n (pc' := 43) dJ6_bitCount_0f7a4_42 rfl rfl ?_
  refine sw_bipush (pc' := 45) dJ6_bitCount_0f7a4_43 rfl rfl ?_
  refine sw_iushr (pc' := 46) dJ6_bitCount_0f7a4_45 rfl ?_
  refine sw_iadd (pc' := 47) dJ6_bitCount_0f7a4_46 rfl ?_
  refine sw_istore_n (pc' := 48) (x := (((iad (((iad (x0 - (iad (ius x0 1) 1431655765)) 858993459) + (iad (ius (x0 - (iad (ius x0 1) 1431655765)) 2) 858993459)) + (ius ((iad (x0 - (iad (ius x0 1) 1431655765)) 858993459) + (iad (ius (x0 - (iad (ius x0 1) 1431655765)) 2) 858993459)) 4)) 252645135) + (ius (iad (((iad (x0 - (iad (ius x0 1) 1431655765)) 858993459) + (iad (ius (x0 - (iad (ius x0 1) 1431655765)) 2) 858993459)) + (ius ((iad (x0 - (iad (ius x0 1) 1431655765)) 858993459) + (iad (ius (x0 - (iad (ius x0 1) 1431655765)) 2) 858993459)) 4)) 252645135) 8)) + (ius ((iad (((iad (x0 - (iad (ius x0 1) 1431655765)) 858993459) + (iad (ius (x0 - (iad (ius x0 1) 1431655765)) 2) 858993459)) + (ius ((iad (x0 - (iad (ius x0 1) 1431655765)) 858993459) + (iad (ius (x0 - (iad (ius x0 1) 1431655765)) 2) 858993459)) 4)) 252645135) + (ius (iad (((iad (x0 - (iad (ius x0 1) 1431655765)) 858993459) + (iad (ius (x0 - (iad (ius x0 1) 1431655765)) 2) 858993459)) + (ius ((iad (x0 - (iad (ius x0 1) 1431655765)) 858993459) + (iad (ius (x0 - (iad (ius x0 1) 1431655765)) 2) 858993459)) 4)) 252645135) 8)) 16))) (L' := [some (vi (((iad (((iad (x0 - (iad (ius x0 1) 1431655765)) 858993459) + (iad (ius (x0 - (iad (ius x0 1) 1431655765)) 2) 858993459)) + (ius ((iad (x0 - (iad (ius x0 1) 1431655765)) 858993459) + (iad (ius (x0 - (iad (ius x0 1) 1431655765)) 2) 858993459)) 4)) 252645135) + (ius (iad (((iad (x0 - (iad (ius x0 1) 1431655765)) 858993459) + (iad (ius (x0 - (iad (ius x0 1) 1431655765)) 2) 858993459)) + (ius ((iad (x0 - (iad (ius x0 1) 1431655765)) 858993459) + (iad (ius (x0 - (iad (ius x0 1) 1431655765)) 2) 858993459)) 4)) 252645135) 8)) + (ius ((iad (((iad (x0 - (iad (ius x0 1) 1431655765)) 858993459) + (iad (ius (x0 - (iad (ius x0 1) 1431655765)) 2) 858993459)) + (ius ((iad (x0 - (iad (ius x0 1) 1431655765)) 858993459) + (iad (ius (x0 - (iad (ius x0 1) 1431655765)) 2) 858993459)) 4)) 252645135) + (ius (iad (((iad (x0 - (iad (ius x0 1) 1431655765)) 858993459) + (iad (ius (x0 - (iad (ius x0 1) 1431655765)) 2) 858993459)) + (ius ((iad (x0 - (iad (ius x0 1) 1431655765)) 858993459) + (iad (ius (x0 - (iad (ius x0 1) 1431655765)) 2) 858993459)) 4)) 252645135) 8)) 16)))]) dJ6_bitCount_0f7a4_47 rfl (by decide) rfl rfl ?_
  refine sw_iload_n (pc' := 49) dJ6_bitCount_0f7a4_48 rfl rfl ?_
  refine sw_bipush (pc' := 51) dJ6_bitCount_0f7a4_49 rfl rfl ?_
  refine sw_iand (pc' := 52) dJ6_bitCount_0f7a4_51 rfl ?_
  exact sw_iret dJ6_bitCount_0f7a4_52
end GEN
end
section
section GEN
variable {G : Gh} {l : Launch}
def rm_X5_in : Room := { frames := 0, cells := 0, slots := 0, locals := 0 }
def f_X5_in (x0 : Int) (x2 : Int) (x4 : Int) (σ : St) : Option (Bool × St) :=
  if wr (lcm x0 x2) < 0 then
    some (false, σ)
  else
    if 0 < wr (lcm x0 x4) then
      some (false, σ)
    else
      some (true, σ)
set_option maxRecDepth 20000 in
theorem m_X5_in (x0 : Int) (x2 : Int) (x4 : Int)  (σ : St) : MT G l yX5_in cX5_in 6 (some .boolean) rm_X5_in [vl x0, vl x2, vl x4] wB σ (f_X5_in x0 x2 x4 σ) := by
  refine mt_B (L := [some (vl x0), none, some (vl x2), none, some (vl x4), none]) rfl (Nat.le_of_ble_eq_true rfl) rfl ?_
  show SW G l RX5 cX5_in 6 rm_X5_in wB 0 [some (vl x0), none, some (vl x2), none, some (vl x4), none] [] σ (f_X5_in x0 x2 x4 σ)
  unfold f_X5_in
  refine sw_lload_n (pc' := 1) dX5_in_0 rfl rfl ?_
  refine sw_lload_n (pc' := 2) dX5_in_1 rfl rfl ?_
  refine sw_lcmp (pc' := 3) dX5_in_2 rfl ?_
  refine sw_if_lt (tgt := 17) (pc' := 6) dX5_in_3 (by decide) rfl (fun _ => ?_) (fun _ => ?_)
  · refine sw_iconst (pc' := 18) dX5_in_17 rfl ?_
    exact sw_bret (x := false) dX5_in_18
  · refine sw_lload_n (pc' := 7) dX5_in_6 rfl rfl ?_
    refine sw_lload (pc' := 9) dX5_in_7 rfl rfl ?_
    refine sw_lcmp (pc' := 10) dX5_in_9 rfl ?_
    refine sw_if_gt (tgt := 17) (pc' := 13) dX5_in_10 (by decide) rfl (fun _ => ?_) (fun _ => ?_)
    · refine sw_iconst (pc' := 18) dX5_in_17 rfl ?_
      exact sw_bret (x := false) dX5_in_18
    · refine sw_iconst (pc' := 14) dX5_in_13 rfl ?_
      refine sw_goto (pc' := 18) dX5_in_14 (by decide) ?_
      exact sw_bret (x := true) dX5_in_18
def rm_X5_feed : Room := { frames := 1, cells := 0, slots := 0, locals := 25 }
def f_X5_feed (x1 : Int) (σ : St) : Option (Int × St) :=
  bI (f_X5_in (wr x1) 0 127 σ) fun v6 s6 => if v6 then
    if wr (s6 51 8) = wr 160 then
      some ((-3), s6)
    else
      bV (sv s6 54 160 (s6 51 8) x1) fun s36 => bV (pf s36 51 8 ((s36 51 8) + 1)) fun s44 => some ((s44 51 8), s44)
  else
    some ((-1), s6)
set_option maxRecDepth 20000 in
theorem m_X5_feed (x1 : Int)  (σ : St) : MT G l yX5_feed cX5_feed 2 (some .int) rm_X5_feed [.ref (ad G 51), vi x1] wI σ (f_X5_feed x1 σ) := by
  refine mt_I (L := [some (.ref (ad G 51)), some (vi x1)]) rfl (Nat.le_of_ble_eq_true rfl) rfl ?_
  show SW G l RX5 cX5_feed 2 rm_X5_feed wI 0 [some (.ref (ad G 51)), some (vi x1)] [] σ (f_X5_feed x1 σ)
  unfold f_X5_feed
  refine sw_iload_n (pc' := 1) dX5_feed_0 rfl rfl ?_
  refine sw_i2l (pc' := 2) dX5_feed_1 rfl ?_
  refine sw_lconst (x := 0) (pc' := 3) dX5_feed_2 rfl rfl ?_
  refine sw_ldc2 (n := 127) (pc' := 6) dX5_feed_3 kl_X5_44 rfl ?_
  refine sw_callSB (pc' := 9) (As := [vl (wr x1), vl 0, vl 127]) (rest := []) dX5_feed_6 cs_X5_46 (m_X5_in (wr x1) 0 127 σ) rfl rfl rfl rfl rfl (fun v6 s6 => ?_)
  refine sw_bif_ne (tgt := 14) (pc' := 12) dX5_feed_9 (by decide) rfl (fun _ => ?_) (fun _ => ?_)
  · refine sw_aload_n (pc' := 15) dX5_feed_14 rfl rfl ?_
    refine sw_getn (pc' := 18) dX5_feed_15 fl_X5_50 (tbk_51) rfl rfl ?_
    refine sw_sipush (pc' := 21) dX5_feed_18 rfl rfl ?_
    refine sw_icmp_ne (tgt := 27) (pc' := 24) dX5_feed_21 (by decide) rfl (fun _ => ?_) (fun _ => ?_)
    · refine sw_bipush (pc' := 26) dX5_feed_24 rfl rfl ?_
      exact sw_iret dX5_feed_26
    · refine sw_aload_n (pc' := 28) dX5_feed_27 rfl rfl ?_
      refine sw_getr (pc' := 31) dX5_feed_28 fl_X5_16 (tbk_51) rfl rfl ?_
      refine sw_aload_n (pc' := 32) dX5_feed_31 rfl rfl ?_
      refine sw_getn (pc' := 35) dX5_feed_32 fl_X5_50 (tbk_51) rfl rfl ?_
      refine sw_iload_n (pc' := 36) dX5_feed_35 rfl rfl ?_
      refine sw_iast (pc' := 37) dX5_feed_36 (tbk_54) rfl (fun s36 => ?_)
      refine sw_aload_n (pc' := 38) dX5_feed_37 rfl rfl ?_
      refine sw_dup (pc' := 39) dX5_feed_38 rfl rfl ?_
      refine sw_getn (pc' := 42) dX5_feed_39 fl_X5_50 (tbk_51) rfl rfl ?_
      refine sw_iconst (pc' := 43) dX5_feed_42 rfl ?_
      refine sw_iadd (pc' := 44) dX5_feed_43 rfl ?_
      refine sw_putI (pc' := 47) dX5_feed_44 fp_X5_50 (tbk_51) rfl rfl (fun s44 => ?_)
      refine sw_aload_n (pc' := 48) dX5_feed_47 rfl rfl ?_
      refine sw_getn (pc' := 51) dX5_feed_48 fl_X5_50 (tbk_51) rfl rfl ?_
      exact sw_iret dX5_feed_51
  · refine sw_iconst (pc' := 13) dX5_feed_12 rfl ?_
    exact sw_iret dX5_feed_13
def rm_X5_end : Room := { frames := 1, cells := 0, slots := 0, locals := 25 }
def f_X5_end (x1 : Int) (σ : St) : Option (Int × St) :=
  bI (f_X5_in (wr x1) 0 (wr (σ 51 8)) σ) fun v8 s8 => if v8 then
    bV (pf s8 51 8 x1) fun s23 => some ((s8 51 8), s23)
  else
    some ((-1), s8)
set_option maxRecDepth 20000 in
theorem m_X5_end (x1 : Int)  (σ : St) : MT G l yX5_end cX5_end 3 (some .int) rm_X5_end [.ref (ad G 51), vi x1] wI σ (f_X5_end x1 σ) := by
  refine mt_I (L := [some (.ref (ad G 51)), some (vi x1), none]) rfl (Nat.le_of_ble_eq_true rfl) rfl ?_
  show SW G l RX5 cX5_end 3 rm_X5_end wI 0 [some (.ref (ad G 51)), some (vi x1), none] [] σ (f_X5_end x1 σ)
  unfold f_X5_end
  refine sw_iload_n (pc' := 1) dX5_end_0 rfl rfl ?_
  refine sw_i2l (pc' := 2) dX5_end_1 rfl ?_
  refine sw_lconst (x := 0) (pc' := 3) dX5_end_2 rfl rfl ?_
  refine sw_aload_n (pc' := 4) dX5_end_3 rfl rfl ?_
  refine sw_getn (pc' := 7) dX5_end_4 fl_X5_50 (tbk_51) rfl rfl ?_
  refine sw_i2l (pc' := 8) dX5_end_7 rfl ?_
  refine sw_callSB (pc' := 11) (As := [vl (wr x1), vl 0, vl (wr (σ 51 8))]) (rest := []) dX5_end_8 cs_X5_46 (m_X5_in (wr x1) 0 (wr (σ 51 8)) σ) rfl rfl rfl rfl rfl (fun v8 s8 => ?_)
  refine sw_bif_ne (tgt := 16) (pc' := 14) dX5_end_11 (by decide) rfl (fun _ => ?_) (fun _ => ?_)
  · refine sw_aload_n (pc' := 17) dX5_end_16 rfl rfl ?_
    refine sw_getn (pc' := 20) dX5_end_17 fl_X5_50 (tbk_51) rfl rfl ?_
    refine sw_istore_n (pc' := 21) (x := (s8 51 8)) (L' := [some (.ref (ad G 51)), some (vi x1), some (vi (s8 51 8))]) dX5_end_20 rfl (by decide) rfl rfl ?_
    refine sw_aload_n (pc' := 22) dX5_end_21 rfl rfl ?_
    refine sw_iload_n (pc' := 23) dX5_end_22 rfl rfl ?_
    refine sw_putI (pc' := 26) dX5_end_23 fp_X5_50 (tbk_51) rfl rfl (fun s23 => ?_)
    refine sw_iload_n (pc' := 27) dX5_end_26 rfl rfl ?_
    exact sw_iret dX5_end_27
  · refine sw_iconst (pc' := 15) dX5_end_14 rfl ?_
    exact sw_iret dX5_end_15
def rm_X5_byteAt : Room := { frames := 0, cells := 0, slots := 0, locals := 0 }
def f_X5_byteAt (x1 : Int) (σ : St) : Option (Int × St) :=
  if wr x1 < wr (σ 51 8) then
    bV (ld σ 54 160 x1) fun v13 => some (v13, σ)
  else
    some ((-4), σ)
set_option maxRecDepth 20000 in
theorem m_X5_byteAt (x1 : Int)  (σ : St) : MT G l yX5_byteAt cX5_byteAt 2 (some .int) rm_X5_byteAt [.ref (ad G 51), vi x1] wI σ (f_X5_byteAt x1 σ) := by
  refine mt_I (L := [some (.ref (ad G 51)), some (vi x1)]) rfl (Nat.le_of_ble_eq_true rfl) rfl ?_
  show SW G l RX5 cX5_byteAt 2 rm_X5_byteAt wI 0 [some (.ref (ad G 51)), some (vi x1)] [] σ (f_X5_byteAt x1 σ)
  unfold f_X5_byteAt
  refine sw_iload_n (pc' := 1) dX5_byteAt_0 rfl rfl ?_
  refine sw_aload_n (pc' := 2) dX5_byteAt_1 rfl rfl ?_
  refine sw_getn (pc' := 5) dX5_byteAt_2 fl_X5_50 (tbk_51) rfl rfl ?_
  refine sw_icmp_ge (tgt := 17) (pc' := 8) dX5_byteAt_5 (by decide) rfl (fun _ => ?_) (fun _ => ?_)
  · refine sw_aload_n (pc' := 9) dX5_byteAt_8 rfl rfl ?_
    refine sw_getr (pc' := 12) dX5_byteAt_9 fl_X5_16 (tbk_51) rfl rfl ?_
    refine sw_iload_n (pc' := 13) dX5_byteAt_12 rfl rfl ?_
    refine sw_iald (pc' := 14) dX5_byteAt_13 (tbk_54) rfl (fun v13 => ?_)
    refine sw_goto (pc' := 19) dX5_byteAt_14 (by decide) ?_
    exact sw_iret dX5_byteAt_19
  · refine sw_bipush (pc' := 19) dX5_byteAt_17 rfl rfl ?_
    exact sw_iret dX5_byteAt_19
def rm_X5_fails : Room := { frames := 0, cells := 0, slots := 0, locals := 0 }
def f_X5_fails (x1 : Int) (σ : St) : Option (St) :=
  if wr (σ 51 10) = 0 then
    bV (pf σ 51 10 x1) fun s9 => bV (pf s9 51 11 (s9 51 13)) fun s17 => some s17
  else
    some σ
set_option maxRecDepth 20000 in
theorem m_X5_fails (x1 : Int)  (σ : St) : MT G l yX5_fails cX5_fails 2 none rm_X5_fails [.ref (ad G 51), vi x1] wV σ (f_X5_fails x1 σ) := by
  refine mt_V (L := [some (.ref (ad G 51)), some (vi x1)]) rfl (Nat.le_of_ble_eq_true rfl) rfl ?_
  show SW G l RX5 cX5_fails 2 rm_X5_fails wV 0 [some (.ref (ad G 51)), some (vi x1)] [] σ (f_X5_fails x1 σ)
  unfold f_X5_fails
  refine sw_aload_n (pc' := 1) dX5_fails_0 rfl rfl ?_
  refine sw_getn (pc' := 4) dX5_fails_1 fl_X5_54 (tbk_51) rfl rfl ?_
  refine sw_if_ne (tgt := 20) (pc' := 7) dX5_fails_4 (by decide) rfl (fun _ => ?_) (fun _ => ?_)
  · refine sw_aload_n (pc' := 8) dX5_fails_7 rfl rfl ?_
    refine sw_iload_n (pc' := 9) dX5_fails_8 rfl rfl ?_
    refine sw_putI (pc' := 12) dX5_fails_9 fp_X5_54 (tbk_51) rfl rfl (fun s9 => ?_)
    refine sw_aload_n (pc' := 13) dX5_fails_12 rfl rfl ?_
    refine sw_aload_n (pc' := 14) dX5_fails_13 rfl rfl ?_
    refine sw_getn (pc' := 17) dX5_fails_14 fl_X5_57 (tbk_51) rfl rfl ?_
    refine sw_putI (pc' := 20) dX5_fails_17 fp_X5_60 (tbk_51) rfl rfl (fun s17 => ?_)
    exact sw_vret dX5_fails_20
  · exact sw_vret dX5_fails_20
def rm_X5_nameHere : Room := { frames := 1, cells := 0, slots := 0, locals := 21 }
def f_X5_nameHere_99  (k2 : Int → St → Option (Int × St)) (k51 : Int → Int → Int → St → Option (Int × St)) (x1 x3 t0 : Int) (σ : St) : Option (Int × St) :=
  k51 x1 t0 (x3 + 1) σ
set_option maxRecDepth 20000 in
theorem s_X5_nameHere_99   (k2 : Int → St → Option (Int × St)) (k51 : Int → Int → Int → St → Option (Int × St)) (hk2 : ∀ (x1 : Int) (σ : St), SW G l RX5 cX5_nameHere 4 rm_X5_nameHere wI 2 [some (.ref (ad G 51)), some (vi x1), none, none] [] σ (k2 x1 σ)) (hk51 : ∀ (x1 x2 x3 : Int) (σ : St), SW G l RX5 cX5_nameHere 4 rm_X5_nameHere wI 51 [some (.ref (ad G 51)), some (vi x1), some (vi x2), some (vi x3)] [] σ (k51 x1 x2 x3 σ)) (x1 x3 t0 : Int) (σ : St) : SW G l RX5 cX5_nameHere 4 rm_X5_nameHere wI 99 [some (.ref (ad G 51)), some (vi x1), none, some (vi x3)] [vi t0] σ (f_X5_nameHere_99 k2 k51 x1 x3 t0 σ) := by
  unfold f_X5_nameHere_99
  refine sw_istore_n (pc' := 100) (x := t0) (L' := [some (.ref (ad G 51)), some (vi x1), some (vi t0), some (vi x3)]) dX5_nameHere_99 rfl (by decide) rfl rfl ?_
  refine sw_iinc (pc' := 103) (x := x3) (L' := [some (.ref (ad G 51)), some (vi x1), some (vi t0), some (vi (x3 + 1))]) dX5_nameHere_100 rfl (by decide) rfl rfl rfl ?_
  refine sw_goto (pc' := 51) dX5_nameHere_103 (by decide) ?_
  exact hk51 x1 t0 (x3 + 1) σ
def f_X5_nameHere_106  (k2 : Int → St → Option (Int × St)) (x1 x2 : Int) (σ : St) : Option (Int × St) :=
  if wr x2 = 0 then
    k2 (x1 + 1) σ
  else
    some (x1, σ)
set_option maxRecDepth 20000 in
theorem s_X5_nameHere_106   (k2 : Int → St → Option (Int × St)) (hk2 : ∀ (x1 : Int) (σ : St), SW G l RX5 cX5_nameHere 4 rm_X5_nameHere wI 2 [some (.ref (ad G 51)), some (vi x1), none, none] [] σ (k2 x1 σ)) (x1 x2 : Int) (σ : St) : SW G l RX5 cX5_nameHere 4 rm_X5_nameHere wI 106 [some (.ref (ad G 51)), some (vi x1), some (vi x2), none] [] σ (f_X5_nameHere_106 k2 x1 x2 σ) := by
  unfold f_X5_nameHere_106
  refine sw_iload_n (pc' := 107) dX5_nameHere_106 rfl rfl ?_
  refine sw_if_eq (tgt := 112) (pc' := 110) dX5_nameHere_107 (by decide) rfl (fun _ => ?_) (fun _ => ?_)
  · refine sw_iinc (pc' := 115) (x := x1) (L' := [some (.ref (ad G 51)), some (vi (x1 + 1)), some (vi x2), none]) dX5_nameHere_112 rfl (by decide) rfl rfl rfl ?_
    refine sw_goto (pc' := 2) dX5_nameHere_115 (by decide) ?_
    refine sw_msk [true, true, false, false] rfl ?_
    exact hk2 (x1 + 1) σ
  · refine sw_iload_n (pc' := 111) dX5_nameHere_110 rfl rfl ?_
    exact sw_iret dX5_nameHere_111
def f_X5_nameHere_51  (k2 : Int → St → Option (Int × St)) : Nat → Int → Int → Int → St → Option (Int × St)
  | 0, _, _, _, _ => none
  | n + 1, x1, x2, x3, σ =>
    if wr x2 = 0 then
      f_X5_nameHere_106 k2 x1 x2 σ
    else
      if wr x3 < wr ((σ 51 12) - (σ 51 13)) then
        bI (f_X5_byteAt ((σ 51 13) + x3) σ) fun v75 s75 => bV (ld s75 55 8 x1) fun v87 => bV (ld s75 56 36 (v87 + x3)) fun v90 => if wr v75 = wr v90 then
          f_X5_nameHere_99 k2 (f_X5_nameHere_51 k2 n) x1 x3 1 s75
        else
          f_X5_nameHere_99 k2 (f_X5_nameHere_51 k2 n) x1 x3 0 s75
      else
        f_X5_nameHere_106 k2 x1 x2 σ
set_option maxRecDepth 20000 in
theorem s_X5_nameHere_51   (k2 : Int → St → Option (Int × St)) (hk2 : ∀ (x1 : Int) (σ : St), SW G l RX5 cX5_nameHere 4 rm_X5_nameHere wI 2 [some (.ref (ad G 51)), some (vi x1), none, none] [] σ (k2 x1 σ)) : ∀ (n : Nat) (x1 x2 x3 : Int) (σ : St), SW G l RX5 cX5_nameHere 4 rm_X5_nameHere wI 51 [some (.ref (ad G 51)), some (vi x1), some (vi x2), some (vi x3)] [] σ (f_X5_nameHere_51 k2 n x1 x2 x3 σ) := by
  intro n
  induction n with
  | zero => intro x1 x2 x3 σ; exact sw_none
  | succ n ih =>
    intro x1 x2 x3 σ
    rw [f_X5_nameHere_51]
    refine sw_iload_n (pc' := 52) dX5_nameHere_51 rfl rfl ?_
    refine sw_if_eq (tgt := 106) (pc' := 55) dX5_nameHere_52 (by decide) rfl (fun _ => ?_) (fun _ => ?_)
    · refine sw_msk [true, true, true, false] rfl ?_
      exact s_X5_nameHere_106 k2 hk2 x1 x2 σ
    · refine sw_iload_n (pc' := 56) dX5_nameHere_55 rfl rfl ?_
      refine sw_aload_n (pc' := 57) dX5_nameHere_56 rfl rfl ?_
      refine sw_getn (pc' := 60) dX5_nameHere_57 fl_X5_66 (tbk_51) rfl rfl ?_
      refine sw_aload_n (pc' := 61) dX5_nameHere_60 rfl rfl ?_
      refine sw_getn (pc' := 64) dX5_nameHere_61 fl_X5_57 (tbk_51) rfl rfl ?_
      refine sw_isub (pc' := 65) dX5_nameHere_64 rfl ?_
      refine sw_icmp_ge (tgt := 106) (pc' := 68) dX5_nameHere_65 (by decide) rfl (fun _ => ?_) (fun _ => ?_)
      · refine sw_aload_n (pc' := 69) dX5_nameHere_68 rfl rfl ?_
        refine sw_aload_n (pc' := 70) dX5_nameHere_69 rfl rfl ?_
        refine sw_getn (pc' := 73) dX5_nameHere_70 fl_X5_57 (tbk_51) rfl rfl ?_
        refine sw_iload_n (pc' := 74) dX5_nameHere_73 rfl rfl ?_
        refine sw_iadd (pc' := 75) dX5_nameHere_74 rfl ?_
        refine sw_callVI (pc' := 78) (As := [vi ((σ 51 13) + x3)]) (rest := []) dX5_nameHere_75 cv_X5_69 (tbk_51) (m_X5_byteAt ((σ 51 13) + x3) σ) rfl rfl rfl rfl rfl (fun v75 s75 => ?_)
        refine sw_aload_n (pc' := 79) dX5_nameHere_78 rfl rfl ?_
        refine sw_getr (pc' := 82) dX5_nameHere_79 fl_X5_22 (tbk_51) rfl rfl ?_
        refine sw_aload_n (pc' := 83) dX5_nameHere_82 rfl rfl ?_
        refine sw_getr (pc' := 86) dX5_nameHere_83 fl_X5_19 (tbk_51) rfl rfl ?_
        refine sw_iload_n (pc' := 87) dX5_nameHere_86 rfl rfl ?_
        refine sw_iald (pc' := 88) dX5_nameHere_87 (tbk_55) rfl (fun v87 => ?_)
        refine sw_iload_n (pc' := 89) dX5_nameHere_88 rfl rfl ?_
        refine sw_iadd (pc' := 90) dX5_nameHere_89 rfl ?_
        refine sw_iald (pc' := 91) dX5_nameHere_90 (tbk_56) rfl (fun v90 => ?_)
        refine sw_icmp_ne (tgt := 98) (pc' := 94) dX5_nameHere_91 (by decide) rfl (fun _ => ?_) (fun _ => ?_)
        · refine sw_iconst (pc' := 95) dX5_nameHere_94 rfl ?_
          refine sw_goto (pc' := 99) dX5_nameHere_95 (by decide) ?_
          refine sw_msk [true, true, false, true] rfl ?_
          exact s_X5_nameHere_99 k2 (f_X5_nameHere_51 k2 n) hk2 (ih) x1 x3 1 s75
        · refine sw_iconst (pc' := 99) dX5_nameHere_98 rfl ?_
          refine sw_msk [true, true, false, true] rfl ?_
          exact s_X5_nameHere_99 k2 (f_X5_nameHere_51 k2 n) hk2 (ih) x1 x3 0 s75
      · refine sw_msk [true, true, true, false] rfl ?_
        exact s_X5_nameHere_106 k2 hk2 x1 x2 σ
def f_X5_nameHere_48  (k2 : Int → St → Option (Int × St)) (x1 t0 : Int) (σ : St) : Option (Int × St) :=
  f_X5_nameHere_51 k2 FU x1 t0 0 σ
set_option maxRecDepth 20000 in
theorem s_X5_nameHere_48   (k2 : Int → St → Option (Int × St)) (hk2 : ∀ (x1 : Int) (σ : St), SW G l RX5 cX5_nameHere 4 rm_X5_nameHere wI 2 [some (.ref (ad G 51)), some (vi x1), none, none] [] σ (k2 x1 σ)) (x1 t0 : Int) (σ : St) : SW G l RX5 cX5_nameHere 4 rm_X5_nameHere wI 48 [some (.ref (ad G 51)), some (vi x1), none, none] [vi t0] σ (f_X5_nameHere_48 k2 x1 t0 σ) := by
  unfold f_X5_nameHere_48
  refine sw_istore_n (pc' := 49) (x := t0) (L' := [some (.ref (ad G 51)), some (vi x1), some (vi t0), none]) dX5_nameHere_48 rfl (by decide) rfl rfl ?_
  refine sw_iconst (pc' := 50) dX5_nameHere_49 rfl ?_
  refine sw_istore_n (pc' := 51) (x := 0) (L' := [some (.ref (ad G 51)), some (vi x1), some (vi t0), some (vi 0)]) dX5_nameHere_50 rfl (by decide) rfl rfl ?_
  exact s_X5_nameHere_51 k2 hk2 FU x1 t0 0 σ
def f_X5_nameHere_2   : Nat → Int → St → Option (Int × St)
  | 0, _, _ => none
  | n + 1, x1, σ =>
    if wr x1 < wr 7 then
      if wr (σ 51 14) = wr 1 then
        bV (ld σ 55 8 (x1 + 1)) fun v32 => bV (ld σ 55 8 x1) fun v38 => if wr ((σ 51 12) - (σ 51 13)) = wr (v32 - v38) then
          f_X5_nameHere_48 (f_X5_nameHere_2 n) x1 1 σ
        else
          f_X5_nameHere_48 (f_X5_nameHere_2 n) x1 0 σ
      else
        some ((-4), σ)
    else
      some ((-4), σ)
set_option maxRecDepth 20000 in
theorem s_X5_nameHere_2     : ∀ (n : Nat) (x1 : Int) (σ : St), SW G l RX5 cX5_nameHere 4 rm_X5_nameHere wI 2 [some (.ref (ad G 51)), some (vi x1), none, none] [] σ (f_X5_nameHere_2 n x1 σ) := by
  intro n
  induction n with
  | zero => intro x1 σ; exact sw_none
  | succ n ih =>
    intro x1 σ
    rw [f_X5_nameHere_2]
    refine sw_iload_n (pc' := 3) dX5_nameHere_2 rfl rfl ?_
    refine sw_bipush (pc' := 5) dX5_nameHere_3 rfl rfl ?_
    refine sw_icmp_ge (tgt := 118) (pc' := 8) dX5_nameHere_5 (by decide) rfl (fun _ => ?_) (fun _ => ?_)
    · refine sw_aload_n (pc' := 9) dX5_nameHere_8 rfl rfl ?_
      refine sw_getn (pc' := 12) dX5_nameHere_9 fl_X5_63 (tbk_51) rfl rfl ?_
      refine sw_iconst (pc' := 13) dX5_nameHere_12 rfl ?_
      refine sw_icmp_ne (tgt := 118) (pc' := 16) dX5_nameHere_13 (by decide) rfl (fun _ => ?_) (fun _ => ?_)
      · refine sw_aload_n (pc' := 17) dX5_nameHere_16 rfl rfl ?_
        refine sw_getn (pc' := 20) dX5_nameHere_17 fl_X5_66 (tbk_51) rfl rfl ?_
        refine sw_aload_n (pc' := 21) dX5_nameHere_20 rfl rfl ?_
        refine sw_getn (pc' := 24) dX5_nameHere_21 fl_X5_57 (tbk_51) rfl rfl ?_
        refine sw_isub (pc' := 25) dX5_nameHere_24 rfl ?_
        refine sw_aload_n (pc' := 26) dX5_nameHere_25 rfl rfl ?_
        refine sw_getr (pc' := 29) dX5_nameHere_26 fl_X5_19 (tbk_51) rfl rfl ?_
        refine sw_iload_n (pc' := 30) dX5_nameHere_29 rfl rfl ?_
        refine sw_iconst (pc' := 31) dX5_nameHere_30 rfl ?_
        refine sw_iadd (pc' := 32) dX5_nameHere_31 rfl ?_
        refine sw_iald (pc' := 33) dX5_nameHere_32 (tbk_55) rfl (fun v32 => ?_)
        refine sw_aload_n (pc' := 34) dX5_nameHere_33 rfl rfl ?_
        refine sw_getr (pc' := 37) dX5_nameHere_34 fl_X5_19 (tbk_51) rfl rfl ?_
        refine sw_iload_n (pc' := 38) dX5_nameHere_37 rfl rfl ?_
        refine sw_iald (pc' := 39) dX5_nameHere_38 (tbk_55) rfl (fun v38 => ?_)
        refine sw_isub (pc' := 40) dX5_nameHere_39 rfl ?_
        refine sw_icmp_ne (tgt := 47) (pc' := 43) dX5_nameHere_40 (by decide) rfl (fun _ => ?_) (fun _ => ?_)
        · refine sw_iconst (pc' := 44) dX5_nameHere_43 rfl ?_
          refine sw_goto (pc' := 48) dX5_nameHere_44 (by decide) ?_
          exact s_X5_nameHere_48 (f_X5_nameHere_2 n) (ih) x1 1 σ
        · refine sw_iconst (pc' := 48) dX5_nameHere_47 rfl ?_
          exact s_X5_nameHere_48 (f_X5_nameHere_2 n) (ih) x1 0 σ
      · refine sw_bipush (pc' := 120) dX5_nameHere_118 rfl rfl ?_
        exact sw_iret dX5_nameHere_120
    · refine sw_bipush (pc' := 120) dX5_nameHere_118 rfl rfl ?_
      exact sw_iret dX5_nameHere_120
def f_X5_nameHere  (σ : St) : Option (Int × St) :=
  f_X5_nameHere_2 FU 0 σ
set_option maxRecDepth 20000 in
theorem m_X5_nameHere   (σ : St) : MT G l yX5_nameHere cX5_nameHere 4 (some .int) rm_X5_nameHere [.ref (ad G 51)] wI σ (f_X5_nameHere σ) := by
  refine mt_I (L := [some (.ref (ad G 51)), none, none, none]) rfl (Nat.le_of_ble_eq_true rfl) rfl ?_
  show SW G l RX5 cX5_nameHere 4 rm_X5_nameHere wI 0 [some (.ref (ad G 51)), none, none, none] [] σ (f_X5_nameHere σ)
  unfold f_X5_nameHere
  refine sw_iconst (pc' := 1) dX5_nameHere_0 rfl ?_
  refine sw_istore_n (pc' := 2) (x := 0) (L' := [some (.ref (ad G 51)), some (vi 0), none, none]) dX5_nameHere_1 rfl (by decide) rfl rfl ?_
  exact s_X5_nameHere_2 FU 0 σ
def rm_X5_step : Room := { frames := 1, cells := 0, slots := 0, locals := 25 }
def f_X5_step_84   : Nat → St → Option (St)
  | 0, _ => none
  | n + 1, σ =>
    bI (f_X5_byteAt (σ 51 12) σ) fun v89 s89 => bI (f_X5_in (wr v89) 97 122 s89) fun v99 s99 => if v99 then
      bV (pf s99 51 12 ((s99 51 12) + 1)) fun s112 => (f_X5_step_84 n) s112
    else
      bV (pf s99 51 14 1) fun s120 => some s120
set_option maxRecDepth 20000 in
theorem s_X5_step_84     : ∀ (n : Nat) (σ : St), SW G l RX5 cX5_step 2 rm_X5_step wV 84 [some (.ref (ad G 51)), none] [] σ (f_X5_step_84 n σ) := by
  intro n
  induction n with
  | zero => intro  σ; exact sw_none
  | succ n ih =>
    intro  σ
    rw [f_X5_step_84]
    refine sw_aload_n (pc' := 85) dX5_step_84 rfl rfl ?_
    refine sw_aload_n (pc' := 86) dX5_step_85 rfl rfl ?_
    refine sw_getn (pc' := 89) dX5_step_86 fl_X5_66 (tbk_51) rfl rfl ?_
    refine sw_callVI (pc' := 92) (As := [vi (σ 51 12)]) (rest := []) dX5_step_89 cv_X5_69 (tbk_51) (m_X5_byteAt (σ 51 12) σ) rfl rfl rfl rfl rfl (fun v89 s89 => ?_)
    refine sw_i2l (pc' := 93) dX5_step_92 rfl ?_
    refine sw_ldc2 (n := 97) (pc' := 96) dX5_step_93 kl_X5_76 rfl ?_
    refine sw_ldc2 (n := 122) (pc' := 99) dX5_step_96 kl_X5_78 rfl ?_
    refine sw_callSB (pc' := 102) (As := [vl (wr v89), vl 97, vl 122]) (rest := []) dX5_step_99 cs_X5_46 (m_X5_in (wr v89) 97 122 s89) rfl rfl rfl rfl rfl (fun v99 s99 => ?_)
    refine sw_bif_eq (tgt := 118) (pc' := 105) dX5_step_102 (by decide) rfl (fun _ => ?_) (fun _ => ?_)
    · refine sw_aload_n (pc' := 106) dX5_step_105 rfl rfl ?_
      refine sw_dup (pc' := 107) dX5_step_106 rfl rfl ?_
      refine sw_getn (pc' := 110) dX5_step_107 fl_X5_66 (tbk_51) rfl rfl ?_
      refine sw_iconst (pc' := 111) dX5_step_110 rfl ?_
      refine sw_iadd (pc' := 112) dX5_step_111 rfl ?_
      refine sw_putI (pc' := 115) dX5_step_112 fp_X5_66 (tbk_51) rfl rfl (fun s112 => ?_)
      refine sw_goto (pc' := 84) dX5_step_115 (by decide) ?_
      exact (ih) s112
    · refine sw_aload_n (pc' := 119) dX5_step_118 rfl rfl ?_
      refine sw_iconst (pc' := 120) dX5_step_119 rfl ?_
      refine sw_putI (pc' := 123) dX5_step_120 fp_X5_63 (tbk_51) rfl rfl (fun s120 => ?_)
      refine sw_goto (pc' := 269) dX5_step_123 (by decide) ?_
      exact sw_vret dX5_step_269
def f_X5_step_201  (k140 : St → Option (St)) (t0 t1 : Int) (σ : St) : Option (St) :=
  bV (pf σ 51 15 t1) fun s201 => bV (pf s201 51 12 ((s201 51 12) + 1)) fun s211 => k140 s211
set_option maxRecDepth 20000 in
theorem s_X5_step_201   (k140 : St → Option (St)) (hk140 : ∀ (σ : St), SW G l RX5 cX5_step 2 rm_X5_step wV 140 [some (.ref (ad G 51)), none] [] σ (k140 σ)) (t0 t1 : Int) (σ : St) : SW G l RX5 cX5_step 2 rm_X5_step wV 201 [some (.ref (ad G 51)), none] [vi t1, .ref (ad G 51)] σ (f_X5_step_201 k140 t0 t1 σ) := by
  unfold f_X5_step_201
  refine sw_putI (pc' := 204) dX5_step_201 fp_X5_73 (tbk_51) rfl rfl (fun s201 => ?_)
  refine sw_aload_n (pc' := 205) dX5_step_204 rfl rfl ?_
  refine sw_dup (pc' := 206) dX5_step_205 rfl rfl ?_
  refine sw_getn (pc' := 209) dX5_step_206 fl_X5_66 (tbk_51) rfl rfl ?_
  refine sw_iconst (pc' := 210) dX5_step_209 rfl ?_
  refine sw_iadd (pc' := 211) dX5_step_210 rfl ?_
  refine sw_putI (pc' := 214) dX5_step_211 fp_X5_66 (tbk_51) rfl rfl (fun s211 => ?_)
  refine sw_goto (pc' := 140) dX5_step_214 (by decide) ?_
  exact hk140 s211
def f_X5_step_140   : Nat → St → Option (St)
  | 0, _ => none
  | n + 1, σ =>
    bI (f_X5_byteAt (σ 51 12) σ) fun v145 s145 => bI (f_X5_in (wr v145) 48 57 s145) fun v155 s155 => if v155 then
      if wr ((s155 51 12) - (s155 51 13)) < wr 2 then
        bI (f_X5_byteAt (s155 51 12) s155) fun v187 s187 => f_X5_step_201 (f_X5_step_140 n) 51 (((10 * (s155 51 15)) + v187) - 48) s187
      else
        f_X5_step_201 (f_X5_step_140 n) 51 (s155 51 15) s155
    else
      bV (pf s155 51 14 2) fun s219 => if wr 2 < wr ((s219 51 12) - (s219 51 13)) then
        bV (f_X5_fails 1 s219) fun s237 => some s237
      else
        some s219
set_option maxRecDepth 20000 in
theorem s_X5_step_140     : ∀ (n : Nat) (σ : St), SW G l RX5 cX5_step 2 rm_X5_step wV 140 [some (.ref (ad G 51)), none] [] σ (f_X5_step_140 n σ) := by
  intro n
  induction n with
  | zero => intro  σ; exact sw_none
  | succ n ih =>
    intro  σ
    rw [f_X5_step_140]
    refine sw_aload_n (pc' := 141) dX5_step_140 rfl rfl ?_
    refine sw_aload_n (pc' := 142) dX5_step_141 rfl rfl ?_
    refine sw_getn (pc' := 145) dX5_step_142 fl_X5_66 (tbk_51) rfl rfl ?_
    refine sw_callVI (pc' := 148) (As := [vi (σ 51 12)]) (rest := []) dX5_step_145 cv_X5_69 (tbk_51) (m_X5_byteAt (σ 51 12) σ) rfl rfl rfl rfl rfl (fun v145 s145 => ?_)
    refine sw_i2l (pc' := 149) dX5_step_148 rfl ?_
    refine sw_ldc2 (n := 48) (pc' := 152) dX5_step_149 kl_X5_80 rfl ?_
    refine sw_ldc2 (n := 57) (pc' := 155) dX5_step_152 kl_X5_82 rfl ?_
    refine sw_callSB (pc' := 158) (As := [vl (wr v145), vl 48, vl 57]) (rest := []) dX5_step_155 cs_X5_46 (m_X5_in (wr v145) 48 57 s145) rfl rfl rfl rfl rfl (fun v155 s155 => ?_)
    refine sw_bif_eq (tgt := 217) (pc' := 161) dX5_step_158 (by decide) rfl (fun _ => ?_) (fun _ => ?_)
    · refine sw_aload_n (pc' := 162) dX5_step_161 rfl rfl ?_
      refine sw_aload_n (pc' := 163) dX5_step_162 rfl rfl ?_
      refine sw_getn (pc' := 166) dX5_step_163 fl_X5_66 (tbk_51) rfl rfl ?_
      refine sw_aload_n (pc' := 167) dX5_step_166 rfl rfl ?_
      refine sw_getn (pc' := 170) dX5_step_167 fl_X5_57 (tbk_51) rfl rfl ?_
      refine sw_isub (pc' := 171) dX5_step_170 rfl ?_
      refine sw_iconst (pc' := 172) dX5_step_171 rfl ?_
      refine sw_icmp_ge (tgt := 197) (pc' := 175) dX5_step_172 (by decide) rfl (fun _ => ?_) (fun _ => ?_)
      · refine sw_bipush (pc' := 177) dX5_step_175 rfl rfl ?_
        refine sw_aload_n (pc' := 178) dX5_step_177 rfl rfl ?_
        refine sw_getn (pc' := 181) dX5_step_178 fl_X5_73 (tbk_51) rfl rfl ?_
        refine sw_imul (pc' := 182) dX5_step_181 rfl ?_
        refine sw_aload_n (pc' := 183) dX5_step_182 rfl rfl ?_
        refine sw_aload_n (pc' := 184) dX5_step_183 rfl rfl ?_
        refine sw_getn (pc' := 187) dX5_step_184 fl_X5_66 (tbk_51) rfl rfl ?_
        refine sw_callVI (pc' := 190) (As := [vi (s155 51 12)]) (rest := [vi (10 * (s155 51 15)), .ref (ad G 51)]) dX5_step_187 cv_X5_69 (tbk_51) (m_X5_byteAt (s155 51 12) s155) rfl rfl rfl rfl rfl (fun v187 s187 => ?_)
        refine sw_iadd (pc' := 191) dX5_step_190 rfl ?_
        refine sw_bipush (pc' := 193) dX5_step_191 rfl rfl ?_
        refine sw_isub (pc' := 194) dX5_step_193 rfl ?_
        refine sw_goto (pc' := 201) dX5_step_194 (by decide) ?_
        exact s_X5_step_201 (f_X5_step_140 n) (ih) 51 (((10 * (s155 51 15)) + v187) - 48) s187
      · refine sw_aload_n (pc' := 198) dX5_step_197 rfl rfl ?_
        refine sw_getn (pc' := 201) dX5_step_198 fl_X5_73 (tbk_51) rfl rfl ?_
        exact s_X5_step_201 (f_X5_step_140 n) (ih) 51 (s155 51 15) s155
    · refine sw_aload_n (pc' := 218) dX5_step_217 rfl rfl ?_
      refine sw_iconst (pc' := 219) dX5_step_218 rfl ?_
      refine sw_putI (pc' := 222) dX5_step_219 fp_X5_63 (tbk_51) rfl rfl (fun s219 => ?_)
      refine sw_aload_n (pc' := 223) dX5_step_222 rfl rfl ?_
      refine sw_getn (pc' := 226) dX5_step_223 fl_X5_66 (tbk_51) rfl rfl ?_
      refine sw_aload_n (pc' := 227) dX5_step_226 rfl rfl ?_
      refine sw_getn (pc' := 230) dX5_step_227 fl_X5_57 (tbk_51) rfl rfl ?_
      refine sw_isub (pc' := 231) dX5_step_230 rfl ?_
      refine sw_iconst (pc' := 232) dX5_step_231 rfl ?_
      refine sw_icmp_le (tgt := 269) (pc' := 235) dX5_step_232 (by decide) rfl (fun _ => ?_) (fun _ => ?_)
      · refine sw_aload_n (pc' := 236) dX5_step_235 rfl rfl ?_
        refine sw_iconst (pc' := 237) dX5_step_236 rfl ?_
        refine sw_callVV (pc' := 240) (As := [vi 1]) (rest := []) dX5_step_237 cv_X5_84 (tbk_51) (m_X5_fails 1 s219) rfl rfl rfl rfl rfl (fun s237 => ?_)
        refine sw_goto (pc' := 269) dX5_step_240 (by decide) ?_
        exact sw_vret dX5_step_269
      · exact sw_vret dX5_step_269
def f_X5_step_8   : Nat → St → Option (St)
  | 0, _ => none
  | n + 1, σ =>
    bI (f_X5_byteAt (σ 51 12) σ) fun v13 s13 => if wr v13 = wr 32 then
      bV (pf s13 51 12 ((s13 51 12) + 1)) fun s28 => (f_X5_step_8 n) s28
    else
      bV (pf s13 51 13 (s13 51 12)) fun s39 => bI (f_X5_byteAt (s39 51 12) s39) fun v47 s47 => bV (pf s47 51 15 0) fun s53 => if wr v47 = wr (-4) then
        bV (pf s53 51 14 0) fun s64 => some s64
      else
        bI (f_X5_in (wr v47) 97 122 s53) fun v78 s78 => if v78 then
          f_X5_step_84 FU s78
        else
          bI (f_X5_in (wr v47) 48 57 s78) fun v134 s134 => if v134 then
            f_X5_step_140 FU s134
          else
            bV (pf s134 51 14 3) fun s245 => bV (pf s245 51 12 ((s245 51 12) + 1)) fun s255 => if wr v47 = wr 59 then
              some s255
            else
              bV (f_X5_fails 1 s255) fun s266 => some s266
set_option maxRecDepth 20000 in
theorem s_X5_step_8     : ∀ (n : Nat) (σ : St), SW G l RX5 cX5_step 2 rm_X5_step wV 8 [some (.ref (ad G 51)), none] [] σ (f_X5_step_8 n σ) := by
  intro n
  induction n with
  | zero => intro  σ; exact sw_none
  | succ n ih =>
    intro  σ
    rw [f_X5_step_8]
    refine sw_aload_n (pc' := 9) dX5_step_8 rfl rfl ?_
    refine sw_aload_n (pc' := 10) dX5_step_9 rfl rfl ?_
    refine sw_getn (pc' := 13) dX5_step_10 fl_X5_66 (tbk_51) rfl rfl ?_
    refine sw_callVI (pc' := 16) (As := [vi (σ 51 12)]) (rest := []) dX5_step_13 cv_X5_69 (tbk_51) (m_X5_byteAt (σ 51 12) σ) rfl rfl rfl rfl rfl (fun v13 s13 => ?_)
    refine sw_bipush (pc' := 18) dX5_step_16 rfl rfl ?_
    refine sw_icmp_ne (tgt := 34) (pc' := 21) dX5_step_18 (by decide) rfl (fun _ => ?_) (fun _ => ?_)
    · refine sw_aload_n (pc' := 22) dX5_step_21 rfl rfl ?_
      refine sw_dup (pc' := 23) dX5_step_22 rfl rfl ?_
      refine sw_getn (pc' := 26) dX5_step_23 fl_X5_66 (tbk_51) rfl rfl ?_
      refine sw_iconst (pc' := 27) dX5_step_26 rfl ?_
      refine sw_iadd (pc' := 28) dX5_step_27 rfl ?_
      refine sw_putI (pc' := 31) dX5_step_28 fp_X5_66 (tbk_51) rfl rfl (fun s28 => ?_)
      refine sw_goto (pc' := 8) dX5_step_31 (by decide) ?_
      exact (ih) s28
    · refine sw_aload_n (pc' := 35) dX5_step_34 rfl rfl ?_
      refine sw_aload_n (pc' := 36) dX5_step_35 rfl rfl ?_
      refine sw_getn (pc' := 39) dX5_step_36 fl_X5_66 (tbk_51) rfl rfl ?_
      refine sw_putI (pc' := 42) dX5_step_39 fp_X5_57 (tbk_51) rfl rfl (fun s39 => ?_)
      refine sw_aload_n (pc' := 43) dX5_step_42 rfl rfl ?_
      refine sw_aload_n (pc' := 44) dX5_step_43 rfl rfl ?_
      refine sw_getn (pc' := 47) dX5_step_44 fl_X5_66 (tbk_51) rfl rfl ?_
      refine sw_callVI (pc' := 50) (As := [vi (s39 51 12)]) (rest := []) dX5_step_47 cv_X5_69 (tbk_51) (m_X5_byteAt (s39 51 12) s39) rfl rfl rfl rfl rfl (fun v47 s47 => ?_)
      refine sw_istore_n (pc' := 51) (x := v47) (L' := [some (.ref (ad G 51)), some (vi v47)]) dX5_step_50 rfl (by decide) rfl rfl ?_
      refine sw_aload_n (pc' := 52) dX5_step_51 rfl rfl ?_
      refine sw_iconst (pc' := 53) dX5_step_52 rfl ?_
      refine sw_putI (pc' := 56) dX5_step_53 fp_X5_73 (tbk_51) rfl rfl (fun s53 => ?_)
      refine sw_iload_n (pc' := 57) dX5_step_56 rfl rfl ?_
      refine sw_bipush (pc' := 59) dX5_step_57 rfl rfl ?_
      refine sw_icmp_ne (tgt := 70) (pc' := 62) dX5_step_59 (by decide) rfl (fun _ => ?_) (fun _ => ?_)
      · refine sw_aload_n (pc' := 63) dX5_step_62 rfl rfl ?_
        refine sw_iconst (pc' := 64) dX5_step_63 rfl ?_
        refine sw_putI (pc' := 67) dX5_step_64 fp_X5_63 (tbk_51) rfl rfl (fun s64 => ?_)
        refine sw_goto (pc' := 269) dX5_step_67 (by decide) ?_
        exact sw_vret dX5_step_269
      · refine sw_iload_n (pc' := 71) dX5_step_70 rfl rfl ?_
        refine sw_i2l (pc' := 72) dX5_step_71 rfl ?_
        refine sw_ldc2 (n := 97) (pc' := 75) dX5_step_72 kl_X5_76 rfl ?_
        refine sw_ldc2 (n := 122) (pc' := 78) dX5_step_75 kl_X5_78 rfl ?_
        refine sw_callSB (pc' := 81) (As := [vl (wr v47), vl 97, vl 122]) (rest := []) dX5_step_78 cs_X5_46 (m_X5_in (wr v47) 97 122 s53) rfl rfl rfl rfl rfl (fun v78 s78 => ?_)
        refine sw_bif_eq (tgt := 126) (pc' := 84) dX5_step_81 (by decide) rfl (fun _ => ?_) (fun _ => ?_)
        · refine sw_msk [true, false] rfl ?_
          exact s_X5_step_84 FU s78
        · refine sw_iload_n (pc' := 127) dX5_step_126 rfl rfl ?_
          refine sw_i2l (pc' := 128) dX5_step_127 rfl ?_
          refine sw_ldc2 (n := 48) (pc' := 131) dX5_step_128 kl_X5_80 rfl ?_
          refine sw_ldc2 (n := 57) (pc' := 134) dX5_step_131 kl_X5_82 rfl ?_
          refine sw_callSB (pc' := 137) (As := [vl (wr v47), vl 48, vl 57]) (rest := []) dX5_step_134 cs_X5_46 (m_X5_in (wr v47) 48 57 s78) rfl rfl rfl rfl rfl (fun v134 s134 => ?_)
          refine sw_bif_eq (tgt := 243) (pc' := 140) dX5_step_137 (by decide) rfl (fun _ => ?_) (fun _ => ?_)
          · refine sw_msk [true, false] rfl ?_
            exact s_X5_step_140 FU s134
          · refine sw_aload_n (pc' := 244) dX5_step_243 rfl rfl ?_
            refine sw_iconst (pc' := 245) dX5_step_244 rfl ?_
            refine sw_putI (pc' := 248) dX5_step_245 fp_X5_63 (tbk_51) rfl rfl (fun s245 => ?_)
            refine sw_aload_n (pc' := 249) dX5_step_248 rfl rfl ?_
            refine sw_dup (pc' := 250) dX5_step_249 rfl rfl ?_
            refine sw_getn (pc' := 253) dX5_step_250 fl_X5_66 (tbk_51) rfl rfl ?_
            refine sw_iconst (pc' := 254) dX5_step_253 rfl ?_
            refine sw_iadd (pc' := 255) dX5_step_254 rfl ?_
            refine sw_putI (pc' := 258) dX5_step_255 fp_X5_66 (tbk_51) rfl rfl (fun s255 => ?_)
            refine sw_iload_n (pc' := 259) dX5_step_258 rfl rfl ?_
            refine sw_bipush (pc' := 261) dX5_step_259 rfl rfl ?_
            refine sw_icmp_eq (tgt := 269) (pc' := 264) dX5_step_261 (by decide) rfl (fun _ => ?_) (fun _ => ?_)
            · exact sw_vret dX5_step_269
            · refine sw_aload_n (pc' := 265) dX5_step_264 rfl rfl ?_
              refine sw_iconst (pc' := 266) dX5_step_265 rfl ?_
              refine sw_callVV (pc' := 269) (As := [vi 1]) (rest := []) dX5_step_266 cv_X5_84 (tbk_51) (m_X5_fails 1 s255) rfl rfl rfl rfl rfl (fun s266 => ?_)
              exact sw_vret dX5_step_269
def f_X5_step  (σ : St) : Option (St) :=
  if 0 < wr (σ 51 10) then
    some σ
  else
    f_X5_step_8 FU σ
set_option maxRecDepth 20000 in
theorem m_X5_step   (σ : St) : MT G l yX5_step cX5_step 2 none rm_X5_step [.ref (ad G 51)] wV σ (f_X5_step σ) := by
  refine mt_V (L := [some (.ref (ad G 51)), none]) rfl (Nat.le_of_ble_eq_true rfl) rfl ?_
  show SW G l RX5 cX5_step 2 rm_X5_step wV 0 [some (.ref (ad G 51)), none] [] σ (f_X5_step σ)
  unfold f_X5_step
  refine sw_aload_n (pc' := 1) dX5_step_0 rfl rfl ?_
  refine sw_getn (pc' := 4) dX5_step_1 fl_X5_54 (tbk_51) rfl rfl ?_
  refine sw_if_le (tgt := 8) (pc' := 7) dX5_step_4 (by decide) rfl (fun _ => ?_) (fun _ => ?_)
  · exact sw_vret dX5_step_7
  · exact s_X5_step_8 FU σ
def rm_X5_number : Room := { frames := 2, cells := 0, slots := 0, locals := 46 }
def f_X5_number_62   (t0 : Int) (σ : St) : Option (Int × St) :=
  bV (f_X5_step σ) fun s64 => some (t0, s64)
set_option maxRecDepth 20000 in
theorem s_X5_number_62     (t0 : Int) (σ : St) : SW G l RX5 cX5_number 4 rm_X5_number wI 62 [some (.ref (ad G 51)), none, none, none] [vi t0] σ (f_X5_number_62 t0 σ) := by
  unfold f_X5_number_62
  refine sw_istore_n (pc' := 63) (x := t0) (L' := [some (.ref (ad G 51)), none, none, some (vi t0)]) dX5_number_62 rfl (by decide) rfl rfl ?_
  refine sw_aload_n (pc' := 64) dX5_number_63 rfl rfl ?_
  refine sw_callVV (pc' := 67) (As := []) (rest := []) dX5_number_64 cv_X5_88 (tbk_51) (m_X5_step σ) rfl rfl rfl rfl rfl (fun s64 => ?_)
  refine sw_iload_n (pc' := 68) dX5_number_67 rfl rfl ?_
  exact sw_iret dX5_number_68
def f_X5_number_47   (x1 : Int) (σ : St) : Option (Int × St) :=
  if wr (σ 51 10) = 0 then
    f_X5_number_62 (σ 51 15) σ
  else
    f_X5_number_62 x1 σ
set_option maxRecDepth 20000 in
theorem s_X5_number_47     (x1 : Int) (σ : St) : SW G l RX5 cX5_number 4 rm_X5_number wI 47 [some (.ref (ad G 51)), some (vi x1), none, none] [] σ (f_X5_number_47 x1 σ) := by
  unfold f_X5_number_47
  refine sw_aload_n (pc' := 48) dX5_number_47 rfl rfl ?_
  refine sw_getn (pc' := 51) dX5_number_48 fl_X5_54 (tbk_51) rfl rfl ?_
  refine sw_if_ne (tgt := 61) (pc' := 54) dX5_number_51 (by decide) rfl (fun _ => ?_) (fun _ => ?_)
  · refine sw_aload_n (pc' := 55) dX5_number_54 rfl rfl ?_
    refine sw_getn (pc' := 58) dX5_number_55 fl_X5_73 (tbk_51) rfl rfl ?_
    refine sw_goto (pc' := 62) dX5_number_58 (by decide) ?_
    refine sw_msk [true, false, false, false] rfl ?_
    exact s_X5_number_62 (σ 51 15) σ
  · refine sw_iload_n (pc' := 62) dX5_number_61 rfl rfl ?_
    refine sw_msk [true, false, false, false] rfl ?_
    exact s_X5_number_62 x1 σ
def f_X5_number_20   (x1 x2 : Int) (σ : St) : Option (Int × St) :=
  if wr (σ 51 10) = 0 then
    bI (f_X5_in (wr (σ 51 15)) (wr x1) (wr x2) σ) fun v36 s36 => if v36 then
      f_X5_number_47 x1 s36
    else
      bV (f_X5_fails 3 s36) fun s44 => f_X5_number_47 x1 s44
  else
    f_X5_number_47 x1 σ
set_option maxRecDepth 20000 in
theorem s_X5_number_20     (x1 x2 : Int) (σ : St) : SW G l RX5 cX5_number 4 rm_X5_number wI 20 [some (.ref (ad G 51)), some (vi x1), some (vi x2), none] [] σ (f_X5_number_20 x1 x2 σ) := by
  unfold f_X5_number_20
  refine sw_aload_n (pc' := 21) dX5_number_20 rfl rfl ?_
  refine sw_getn (pc' := 24) dX5_number_21 fl_X5_54 (tbk_51) rfl rfl ?_
  refine sw_if_ne (tgt := 47) (pc' := 27) dX5_number_24 (by decide) rfl (fun _ => ?_) (fun _ => ?_)
  · refine sw_aload_n (pc' := 28) dX5_number_27 rfl rfl ?_
    refine sw_getn (pc' := 31) dX5_number_28 fl_X5_73 (tbk_51) rfl rfl ?_
    refine sw_i2l (pc' := 32) dX5_number_31 rfl ?_
    refine sw_iload_n (pc' := 33) dX5_number_32 rfl rfl ?_
    refine sw_i2l (pc' := 34) dX5_number_33 rfl ?_
    refine sw_iload_n (pc' := 35) dX5_number_34 rfl rfl ?_
    refine sw_i2l (pc' := 36) dX5_number_35 rfl ?_
    refine sw_callSB (pc' := 39) (As := [vl (wr (σ 51 15)), vl (wr x1), vl (wr x2)]) (rest := []) dX5_number_36 cs_X5_46 (m_X5_in (wr (σ 51 15)) (wr x1) (wr x2) σ) rfl rfl rfl rfl rfl (fun v36 s36 => ?_)
    refine sw_bif_ne (tgt := 47) (pc' := 42) dX5_number_39 (by decide) rfl (fun _ => ?_) (fun _ => ?_)
    · refine sw_msk [true, true, false, false] rfl ?_
      exact s_X5_number_47 x1 s36
    · refine sw_aload_n (pc' := 43) dX5_number_42 rfl rfl ?_
      refine sw_iconst (pc' := 44) dX5_number_43 rfl ?_
      refine sw_callVV (pc' := 47) (As := [vi 3]) (rest := []) dX5_number_44 cv_X5_84 (tbk_51) (m_X5_fails 3 s36) rfl rfl rfl rfl rfl (fun s44 => ?_)
      refine sw_msk [true, true, false, false] rfl ?_
      exact s_X5_number_47 x1 s44
  · refine sw_msk [true, true, false, false] rfl ?_
    exact s_X5_number_47 x1 σ
def f_X5_number (x1 : Int) (x2 : Int) (σ : St) : Option (Int × St) :=
  if wr (σ 51 10) = 0 then
    if wr (σ 51 14) = wr 2 then
      f_X5_number_20 x1 x2 σ
    else
      bV (f_X5_fails 2 σ) fun s17 => f_X5_number_20 x1 x2 s17
  else
    f_X5_number_20 x1 x2 σ
set_option maxRecDepth 20000 in
theorem m_X5_number (x1 : Int) (x2 : Int)  (σ : St) : MT G l yX5_number cX5_number 4 (some .int) rm_X5_number [.ref (ad G 51), vi x1, vi x2] wI σ (f_X5_number x1 x2 σ) := by
  refine mt_I (L := [some (.ref (ad G 51)), some (vi x1), some (vi x2), none]) rfl (Nat.le_of_ble_eq_true rfl) rfl ?_
  show SW G l RX5 cX5_number 4 rm_X5_number wI 0 [some (.ref (ad G 51)), some (vi x1), some (vi x2), none] [] σ (f_X5_number x1 x2 σ)
  unfold f_X5_number
  refine sw_aload_n (pc' := 1) dX5_number_0 rfl rfl ?_
  refine sw_getn (pc' := 4) dX5_number_1 fl_X5_54 (tbk_51) rfl rfl ?_
  refine sw_if_ne (tgt := 20) (pc' := 7) dX5_number_4 (by decide) rfl (fun _ => ?_) (fun _ => ?_)
  · refine sw_aload_n (pc' := 8) dX5_number_7 rfl rfl ?_
    refine sw_getn (pc' := 11) dX5_number_8 fl_X5_63 (tbk_51) rfl rfl ?_
    refine sw_iconst (pc' := 12) dX5_number_11 rfl ?_
    refine sw_icmp_eq (tgt := 20) (pc' := 15) dX5_number_12 (by decide) rfl (fun _ => ?_) (fun _ => ?_)
    · exact s_X5_number_20 x1 x2 σ
    · refine sw_aload_n (pc' := 16) dX5_number_15 rfl rfl ?_
      refine sw_iconst (pc' := 17) dX5_number_16 rfl ?_
      refine sw_callVV (pc' := 20) (As := [vi 2]) (rest := []) dX5_number_17 cv_X5_84 (tbk_51) (m_X5_fails 2 σ) rfl rfl rfl rfl rfl (fun s17 => ?_)
      exact s_X5_number_20 x1 x2 s17
  · exact s_X5_number_20 x1 x2 σ
def rm_X5_readTrust : Room := { frames := 3, cells := 0, slots := 0, locals := 69 }
def f_X5_readTrust_50   (σ : St) : Option (St) :=
  bI (f_X5_number 0 3 σ) fun v53 s53 => bV (pf s53 51 4 (iod (s53 51 4) (isl 1 v53))) fun s66 => bI (f_X5_number 0 9 s66) fun v81 s81 => bV (sv s81 53 55 (16 + v53) (v81 - 1)) fun s86 => some s86
set_option maxRecDepth 20000 in
theorem s_X5_readTrust_50     (σ : St) : SW G l RX5 cX5_readTrust 2 rm_X5_readTrust wV 50 [some (.ref (ad G 51)), none] [] σ (f_X5_readTrust_50 σ) := by
  unfold f_X5_readTrust_50
  refine sw_aload_n (pc' := 51) dX5_readTrust_50 rfl rfl ?_
  refine sw_iconst (pc' := 52) dX5_readTrust_51 rfl ?_
  refine sw_iconst (pc' := 53) dX5_readTrust_52 rfl ?_
  refine sw_callVI (pc' := 56) (As := [vi 0, vi 3]) (rest := []) dX5_readTrust_53 cv_X5_96 (tbk_51) (m_X5_number 0 3 σ) rfl rfl rfl rfl rfl (fun v53 s53 => ?_)
  refine sw_istore_n (pc' := 57) (x := v53) (L' := [some (.ref (ad G 51)), some (vi v53)]) dX5_readTrust_56 rfl (by decide) rfl rfl ?_
  refine sw_aload_n (pc' := 58) dX5_readTrust_57 rfl rfl ?_
  refine sw_dup (pc' := 59) dX5_readTrust_58 rfl rfl ?_
  refine sw_getn (pc' := 62) dX5_readTrust_59 fl_X5_93 (tbk_51) rfl rfl ?_
  refine sw_iconst (pc' := 63) dX5_readTrust_62 rfl ?_
  refine sw_iload_n (pc' := 64) dX5_readTrust_63 rfl rfl ?_
  refine sw_ishl (pc' := 65) dX5_readTrust_64 rfl ?_
  refine sw_ior (pc' := 66) dX5_readTrust_65 rfl ?_
  refine sw_putI (pc' := 69) dX5_readTrust_66 fp_X5_93 (tbk_51) rfl rfl (fun s66 => ?_)
  refine sw_aload_n (pc' := 70) dX5_readTrust_69 rfl rfl ?_
  refine sw_getr (pc' := 73) dX5_readTrust_70 fl_X5_13 (tbk_51) rfl rfl ?_
  refine sw_bipush (pc' := 75) dX5_readTrust_73 rfl rfl ?_
  refine sw_iload_n (pc' := 76) dX5_readTrust_75 rfl rfl ?_
  refine sw_iadd (pc' := 77) dX5_readTrust_76 rfl ?_
  refine sw_aload_n (pc' := 78) dX5_readTrust_77 rfl rfl ?_
  refine sw_iconst (pc' := 79) dX5_readTrust_78 rfl ?_
  refine sw_bipush (pc' := 81) dX5_readTrust_79 rfl rfl ?_
  refine sw_callVI (pc' := 84) (As := [vi 0, vi 9]) (rest := [vi (16 + v53), .ref (ad G 53)]) dX5_readTrust_81 cv_X5_96 (tbk_51) (m_X5_number 0 9 s66) rfl rfl rfl rfl rfl (fun v81 s81 => ?_)
  refine sw_iconst (pc' := 85) dX5_readTrust_84 rfl ?_
  refine sw_isub (pc' := 86) dX5_readTrust_85 rfl ?_
  refine sw_iast (pc' := 87) dX5_readTrust_86 (tbk_53) rfl (fun s86 => ?_)
  exact sw_vret dX5_readTrust_87
def f_X5_readTrust  (σ : St) : Option (St) :=
  if wr (σ 51 10) = 0 then
    if wr (σ 51 14) = wr 2 then
      bI (f_X5_in (wr (σ 51 15)) 0 3 σ) fun v24 s24 => if v24 then
        if wr (iad (isr (s24 51 4) (s24 51 15)) 1) = wr 1 then
          bV (f_X5_fails 4 s24) fun s47 => f_X5_readTrust_50 s47
        else
          f_X5_readTrust_50 s24
      else
        f_X5_readTrust_50 s24
    else
      f_X5_readTrust_50 σ
  else
    f_X5_readTrust_50 σ
set_option maxRecDepth 20000 in
theorem m_X5_readTrust   (σ : St) : MT G l yX5_readTrust cX5_readTrust 2 none rm_X5_readTrust [.ref (ad G 51)] wV σ (f_X5_readTrust σ) := by
  refine mt_V (L := [some (.ref (ad G 51)), none]) rfl (Nat.le_of_ble_eq_true rfl) rfl ?_
  show SW G l RX5 cX5_readTrust 2 rm_X5_readTrust wV 0 [some (.ref (ad G 51)), none] [] σ (f_X5_readTrust σ)
  unfold f_X5_readTrust
  refine sw_aload_n (pc' := 1) dX5_readTrust_0 rfl rfl ?_
  refine sw_getn (pc' := 4) dX5_readTrust_1 fl_X5_54 (tbk_51) rfl rfl ?_
  refine sw_if_ne (tgt := 50) (pc' := 7) dX5_readTrust_4 (by decide) rfl (fun _ => ?_) (fun _ => ?_)
  · refine sw_aload_n (pc' := 8) dX5_readTrust_7 rfl rfl ?_
    refine sw_getn (pc' := 11) dX5_readTrust_8 fl_X5_63 (tbk_51) rfl rfl ?_
    refine sw_iconst (pc' := 12) dX5_readTrust_11 rfl ?_
    refine sw_icmp_ne (tgt := 50) (pc' := 15) dX5_readTrust_12 (by decide) rfl (fun _ => ?_) (fun _ => ?_)
    · refine sw_aload_n (pc' := 16) dX5_readTrust_15 rfl rfl ?_
      refine sw_getn (pc' := 19) dX5_readTrust_16 fl_X5_73 (tbk_51) rfl rfl ?_
      refine sw_i2l (pc' := 20) dX5_readTrust_19 rfl ?_
      refine sw_lconst (x := 0) (pc' := 21) dX5_readTrust_20 rfl rfl ?_
      refine sw_ldc2 (n := 3) (pc' := 24) dX5_readTrust_21 kl_X5_91 rfl ?_
      refine sw_callSB (pc' := 27) (As := [vl (wr (σ 51 15)), vl 0, vl 3]) (rest := []) dX5_readTrust_24 cs_X5_46 (m_X5_in (wr (σ 51 15)) 0 3 σ) rfl rfl rfl rfl rfl (fun v24 s24 => ?_)
      refine sw_bif_eq (tgt := 50) (pc' := 30) dX5_readTrust_27 (by decide) rfl (fun _ => ?_) (fun _ => ?_)
      · refine sw_aload_n (pc' := 31) dX5_readTrust_30 rfl rfl ?_
        refine sw_getn (pc' := 34) dX5_readTrust_31 fl_X5_93 (tbk_51) rfl rfl ?_
        refine sw_aload_n (pc' := 35) dX5_readTrust_34 rfl rfl ?_
        refine sw_getn (pc' := 38) dX5_readTrust_35 fl_X5_73 (tbk_51) rfl rfl ?_
        refine sw_ishr (pc' := 39) dX5_readTrust_38 rfl ?_
        refine sw_iconst (pc' := 40) dX5_readTrust_39 rfl ?_
        refine sw_iand (pc' := 41) dX5_readTrust_40 rfl ?_
        refine sw_iconst (pc' := 42) dX5_readTrust_41 rfl ?_
        refine sw_icmp_ne (tgt := 50) (pc' := 45) dX5_readTrust_42 (by decide) rfl (fun _ => ?_) (fun _ => ?_)
        · refine sw_aload_n (pc' := 46) dX5_readTrust_45 rfl rfl ?_
          refine sw_iconst (pc' := 47) dX5_readTrust_46 rfl ?_
          refine sw_callVV (pc' := 50) (As := [vi 4]) (rest := []) dX5_readTrust_47 cv_X5_84 (tbk_51) (m_X5_fails 4 s24) rfl rfl rfl rfl rfl (fun s47 => ?_)
          exact s_X5_readTrust_50 s47
        · exact s_X5_readTrust_50 s24
      · exact s_X5_readTrust_50 s24
    · exact s_X5_readTrust_50 σ
  · exact s_X5_readTrust_50 σ
def rm_X5_readReport : Room := { frames := 3, cells := 0, slots := 0, locals := 69 }
def f_X5_readReport_63   (x1 x2 t0 t1 : Int) (σ : St) : Option (St) :=
  bV (pf σ 51 6 t1) fun s63 => bV (sv s63 53 55 (36 + x1) x2) fun s75 => bI (f_X5_number 0 3 s75) fun v87 s87 => bV (sv s87 53 55 (44 + x1) v87) fun s90 => bV (ld s90 53 55 52) fun v98 => bV (sv s90 53 55 52 (v98 + 1)) fun s101 => some s101
set_option maxRecDepth 20000 in
theorem s_X5_readReport_63     (x1 x2 t0 t1 : Int) (σ : St) : SW G l RX5 cX5_readReport 3 rm_X5_readReport wV 63 [some (.ref (ad G 51)), some (vi x1), some (vi x2)] [vi t1, .ref (ad G 51)] σ (f_X5_readReport_63 x1 x2 t0 t1 σ) := by
  unfold f_X5_readReport_63
  refine sw_putI (pc' := 66) dX5_readReport_63 fp_X5_100 (tbk_51) rfl rfl (fun s63 => ?_)
  refine sw_aload_n (pc' := 67) dX5_readReport_66 rfl rfl ?_
  refine sw_getr (pc' := 70) dX5_readReport_67 fl_X5_13 (tbk_51) rfl rfl ?_
  refine sw_bipush (pc' := 72) dX5_readReport_70 rfl rfl ?_
  refine sw_iload_n (pc' := 73) dX5_readReport_72 rfl rfl ?_
  refine sw_iadd (pc' := 74) dX5_readReport_73 rfl ?_
  refine sw_iload_n (pc' := 75) dX5_readReport_74 rfl rfl ?_
  refine sw_iast (pc' := 76) dX5_readReport_75 (tbk_53) rfl (fun s75 => ?_)
  refine sw_aload_n (pc' := 77) dX5_readReport_76 rfl rfl ?_
  refine sw_getr (pc' := 80) dX5_readReport_77 fl_X5_13 (tbk_51) rfl rfl ?_
  refine sw_bipush (pc' := 82) dX5_readReport_80 rfl rfl ?_
  refine sw_iload_n (pc' := 83) dX5_readReport_82 rfl rfl ?_
  refine sw_iadd (pc' := 84) dX5_readReport_83 rfl ?_
  refine sw_aload_n (pc' := 85) dX5_readReport_84 rfl rfl ?_
  refine sw_iconst (pc' := 86) dX5_readReport_85 rfl ?_
  refine sw_iconst (pc' := 87) dX5_readReport_86 rfl ?_
  refine sw_callVI (pc' := 90) (As := [vi 0, vi 3]) (rest := [vi (44 + x1), .ref (ad G 53)]) dX5_readReport_87 cv_X5_96 (tbk_51) (m_X5_number 0 3 s75) rfl rfl rfl rfl rfl (fun v87 s87 => ?_)
  refine sw_iast (pc' := 91) dX5_readReport_90 (tbk_53) rfl (fun s90 => ?_)
  refine sw_aload_n (pc' := 92) dX5_readReport_91 rfl rfl ?_
  refine sw_getr (pc' := 95) dX5_readReport_92 fl_X5_13 (tbk_51) rfl rfl ?_
  refine sw_bipush (pc' := 97) dX5_readReport_95 rfl rfl ?_
  refine sw_dup2 (pc' := 98) dX5_readReport_97 rfl rfl rfl ?_
  refine sw_iald (pc' := 99) dX5_readReport_98 (tbk_53) rfl (fun v98 => ?_)
  refine sw_iconst (pc' := 100) dX5_readReport_99 rfl ?_
  refine sw_iadd (pc' := 101) dX5_readReport_100 rfl ?_
  refine sw_iast (pc' := 102) dX5_readReport_101 (tbk_53) rfl (fun s101 => ?_)
  exact sw_vret dX5_readReport_102
def f_X5_readReport  (σ : St) : Option (St) :=
  bV (ld σ 53 55 52) fun v6 => bI (f_X5_number 0 99 σ) fun v20 s20 => bV (sv s20 53 55 (20 + v6) v20) fun s23 => bI (f_X5_number 0 3 s23) fun v35 s35 => bV (sv s35 53 55 (28 + v6) v35) fun s38 => bI (f_X5_number 0 4 s38) fun v42 s42 => if wr (s42 51 6) < wr v42 then
    f_X5_readReport_63 v6 v42 51 v42 s42
  else
    f_X5_readReport_63 v6 v42 51 (s42 51 6) s42
set_option maxRecDepth 20000 in
theorem m_X5_readReport   (σ : St) : MT G l yX5_readReport cX5_readReport 3 none rm_X5_readReport [.ref (ad G 51)] wV σ (f_X5_readReport σ) := by
  refine mt_V (L := [some (.ref (ad G 51)), none, none]) rfl (Nat.le_of_ble_eq_true rfl) rfl ?_
  show SW G l RX5 cX5_readReport 3 rm_X5_readReport wV 0 [some (.ref (ad G 51)), none, none] [] σ (f_X5_readReport σ)
  unfold f_X5_readReport
  refine sw_aload_n (pc' := 1) dX5_readReport_0 rfl rfl ?_
  refine sw_getr (pc' := 4) dX5_readReport_1 fl_X5_13 (tbk_51) rfl rfl ?_
  refine sw_bipush (pc' := 6) dX5_readReport_4 rfl rfl ?_
  refine sw_iald (pc' := 7) dX5_readReport_6 (tbk_53) rfl (fun v6 => ?_)
  refine sw_istore_n (pc' := 8) (x := v6) (L' := [some (.ref (ad G 51)), some (vi v6), none]) dX5_readReport_7 rfl (by decide) rfl rfl ?_
  refine sw_aload_n (pc' := 9) dX5_readReport_8 rfl rfl ?_
  refine sw_getr (pc' := 12) dX5_readReport_9 fl_X5_13 (tbk_51) rfl rfl ?_
  refine sw_bipush (pc' := 14) dX5_readReport_12 rfl rfl ?_
  refine sw_iload_n (pc' := 15) dX5_readReport_14 rfl rfl ?_
  refine sw_iadd (pc' := 16) dX5_readReport_15 rfl ?_
  refine sw_aload_n (pc' := 17) dX5_readReport_16 rfl rfl ?_
  refine sw_iconst (pc' := 18) dX5_readReport_17 rfl ?_
  refine sw_bipush (pc' := 20) dX5_readReport_18 rfl rfl ?_
  refine sw_callVI (pc' := 23) (As := [vi 0, vi 99]) (rest := [vi (20 + v6), .ref (ad G 53)]) dX5_readReport_20 cv_X5_96 (tbk_51) (m_X5_number 0 99 σ) rfl rfl rfl rfl rfl (fun v20 s20 => ?_)
  refine sw_iast (pc' := 24) dX5_readReport_23 (tbk_53) rfl (fun s23 => ?_)
  refine sw_aload_n (pc' := 25) dX5_readReport_24 rfl rfl ?_
  refine sw_getr (pc' := 28) dX5_readReport_25 fl_X5_13 (tbk_51) rfl rfl ?_
  refine sw_bipush (pc' := 30) dX5_readReport_28 rfl rfl ?_
  refine sw_iload_n (pc' := 31) dX5_readReport_30 rfl rfl ?_
  refine sw_iadd (pc' := 32) dX5_readReport_31 rfl ?_
  refine sw_aload_n (pc' := 33) dX5_readReport_32 rfl rfl ?_
  refine sw_iconst (pc' := 34) dX5_readReport_33 rfl ?_
  refine sw_iconst (pc' := 35) dX5_readReport_34 rfl ?_
  refine sw_callVI (pc' := 38) (As := [vi 0, vi 3]) (rest := [vi (28 + v6), .ref (ad G 53)]) dX5_readReport_35 cv_X5_96 (tbk_51) (m_X5_number 0 3 s23) rfl rfl rfl rfl rfl (fun v35 s35 => ?_)
  refine sw_iast (pc' := 39) dX5_readReport_38 (tbk_53) rfl (fun s38 => ?_)
  refine sw_aload_n (pc' := 40) dX5_readReport_39 rfl rfl ?_
  refine sw_iconst (pc' := 41) dX5_readReport_40 rfl ?_
  refine sw_iconst (pc' := 42) dX5_readReport_41 rfl ?_
  refine sw_callVI (pc' := 45) (As := [vi 0, vi 4]) (rest := []) dX5_readReport_42 cv_X5_96 (tbk_51) (m_X5_number 0 4 s38) rfl rfl rfl rfl rfl (fun v42 s42 => ?_)
  refine sw_istore_n (pc' := 46) (x := v42) (L' := [some (.ref (ad G 51)), some (vi v6), some (vi v42)]) dX5_readReport_45 rfl (by decide) rfl rfl ?_
  refine sw_aload_n (pc' := 47) dX5_readReport_46 rfl rfl ?_
  refine sw_iload_n (pc' := 48) dX5_readReport_47 rfl rfl ?_
  refine sw_aload_n (pc' := 49) dX5_readReport_48 rfl rfl ?_
  refine sw_getn (pc' := 52) dX5_readReport_49 fl_X5_100 (tbk_51) rfl rfl ?_
  refine sw_icmp_le (tgt := 59) (pc' := 55) dX5_readReport_52 (by decide) rfl (fun _ => ?_) (fun _ => ?_)
  · refine sw_iload_n (pc' := 56) dX5_readReport_55 rfl rfl ?_
    refine sw_goto (pc' := 63) dX5_readReport_56 (by decide) ?_
    exact s_X5_readReport_63 v6 v42 51 v42 s42
  · refine sw_aload_n (pc' := 60) dX5_readReport_59 rfl rfl ?_
    refine sw_getn (pc' := 63) dX5_readReport_60 fl_X5_100 (tbk_51) rfl rfl ?_
    exact s_X5_readReport_63 v6 v42 51 (s42 51 6) s42
def rm_X5_readMore : Room := { frames := 4, cells := 0, slots := 0, locals := 91 }
def f_X5_readMore (x1 : Int) (σ : St) : Option (St) :=
  if wr 3 < wr x1 then
    if wr x1 = wr 4 then
      bV (f_X5_readReport σ) fun s71 => some s71
    else
      if wr x1 = wr 5 then
        bV (f_X5_readTrust σ) fun s83 => some s83
      else
        bI (f_X5_number 1 99 σ) fun v99 s99 => bV (sv s99 53 55 15 (v99 - 25)) fun s105 => some s105
  else
    bV (sv σ 53 55 (σ 51 3) x1) fun s14 => bI (f_X5_number 0 15 s14) fun v29 s29 => bV (sv s29 53 55 (5 + (s14 51 3)) v29) fun s32 => bI (f_X5_number 1 99 s32) fun v48 s48 => bV (sv s48 53 55 (10 + (s32 51 3)) v48) fun s51 => bV (pf s51 51 3 ((s51 51 3) + 1)) fun s59 => some s59
set_option maxRecDepth 20000 in
theorem m_X5_readMore (x1 : Int)  (σ : St) : MT G l yX5_readMore cX5_readMore 2 none rm_X5_readMore [.ref (ad G 51), vi x1] wV σ (f_X5_readMore x1 σ) := by
  refine mt_V (L := [some (.ref (ad G 51)), some (vi x1)]) rfl (Nat.le_of_ble_eq_true rfl) rfl ?_
  show SW G l RX5 cX5_readMore 2 rm_X5_readMore wV 0 [some (.ref (ad G 51)), some (vi x1)] [] σ (f_X5_readMore x1 σ)
  unfold f_X5_readMore
  refine sw_iload_n (pc' := 1) dX5_readMore_0 rfl rfl ?_
  refine sw_iconst (pc' := 2) dX5_readMore_1 rfl ?_
  refine sw_icmp_gt (tgt := 65) (pc' := 5) dX5_readMore_2 (by decide) rfl (fun _ => ?_) (fun _ => ?_)
  · refine sw_iload_n (pc' := 66) dX5_readMore_65 rfl rfl ?_
    refine sw_iconst (pc' := 67) dX5_readMore_66 rfl ?_
    refine sw_icmp_ne (tgt := 77) (pc' := 70) dX5_readMore_67 (by decide) rfl (fun _ => ?_) (fun _ => ?_)
    · refine sw_aload_n (pc' := 71) dX5_readMore_70 rfl rfl ?_
      refine sw_callVV (pc' := 74) (As := []) (rest := []) dX5_readMore_71 cv_X5_106 (tbk_51) (m_X5_readReport σ) rfl rfl rfl rfl rfl (fun s71 => ?_)
      refine sw_goto (pc' := 106) dX5_readMore_74 (by decide) ?_
      exact sw_vret dX5_readMore_106
    · refine sw_iload_n (pc' := 78) dX5_readMore_77 rfl rfl ?_
      refine sw_iconst (pc' := 79) dX5_readMore_78 rfl ?_
      refine sw_icmp_ne (tgt := 89) (pc' := 82) dX5_readMore_79 (by decide) rfl (fun _ => ?_) (fun _ => ?_)
      · refine sw_aload_n (pc' := 83) dX5_readMore_82 rfl rfl ?_
        refine sw_callVV (pc' := 86) (As := []) (rest := []) dX5_readMore_83 cv_X5_109 (tbk_51) (m_X5_readTrust σ) rfl rfl rfl rfl rfl (fun s83 => ?_)
        refine sw_goto (pc' := 106) dX5_readMore_86 (by decide) ?_
        exact sw_vret dX5_readMore_106
      · refine sw_aload_n (pc' := 90) dX5_readMore_89 rfl rfl ?_
        refine sw_getr (pc' := 93) dX5_readMore_90 fl_X5_13 (tbk_51) rfl rfl ?_
        refine sw_bipush (pc' := 95) dX5_readMore_93 rfl rfl ?_
        refine sw_aload_n (pc' := 96) dX5_readMore_95 rfl rfl ?_
        refine sw_iconst (pc' := 97) dX5_readMore_96 rfl ?_
        refine sw_bipush (pc' := 99) dX5_readMore_97 rfl rfl ?_
        refine sw_callVI (pc' := 102) (As := [vi 1, vi 99]) (rest := [vi 15, .ref (ad G 53)]) dX5_readMore_99 cv_X5_96 (tbk_51) (m_X5_number 1 99 σ) rfl rfl rfl rfl rfl (fun v99 s99 => ?_)
        refine sw_bipush (pc' := 104) dX5_readMore_102 rfl rfl ?_
        refine sw_isub (pc' := 105) dX5_readMore_104 rfl ?_
        refine sw_iast (pc' := 106) dX5_readMore_105 (tbk_53) rfl (fun s105 => ?_)
        exact sw_vret dX5_readMore_106
  · refine sw_aload_n (pc' := 6) dX5_readMore_5 rfl rfl ?_
    refine sw_getr (pc' := 9) dX5_readMore_6 fl_X5_13 (tbk_51) rfl rfl ?_
    refine sw_aload_n (pc' := 10) dX5_readMore_9 rfl rfl ?_
    refine sw_getn (pc' := 13) dX5_readMore_10 fl_X5_103 (tbk_51) rfl rfl ?_
    refine sw_iload_n (pc' := 14) dX5_readMore_13 rfl rfl ?_
    refine sw_iast (pc' := 15) dX5_readMore_14 (tbk_53) rfl (fun s14 => ?_)
    refine sw_aload_n (pc' := 16) dX5_readMore_15 rfl rfl ?_
    refine sw_getr (pc' := 19) dX5_readMore_16 fl_X5_13 (tbk_51) rfl rfl ?_
    refine sw_iconst (pc' := 20) dX5_readMore_19 rfl ?_
    refine sw_aload_n (pc' := 21) dX5_readMore_20 rfl rfl ?_
    refine sw_getn (pc' := 24) dX5_readMore_21 fl_X5_103 (tbk_51) rfl rfl ?_
    refine sw_iadd (pc' := 25) dX5_readMore_24 rfl ?_
    refine sw_aload_n (pc' := 26) dX5_readMore_25 rfl rfl ?_
    refine sw_iconst (pc' := 27) dX5_readMore_26 rfl ?_
    refine sw_bipush (pc' := 29) dX5_readMore_27 rfl rfl ?_
    refine sw_callVI (pc' := 32) (As := [vi 0, vi 15]) (rest := [vi (5 + (s14 51 3)), .ref (ad G 53)]) dX5_readMore_29 cv_X5_96 (tbk_51) (m_X5_number 0 15 s14) rfl rfl rfl rfl rfl (fun v29 s29 => ?_)
    refine sw_iast (pc' := 33) dX5_readMore_32 (tbk_53) rfl (fun s32 => ?_)
    refine sw_aload_n (pc' := 34) dX5_readMore_33 rfl rfl ?_
    refine sw_getr (pc' := 37) dX5_readMore_34 fl_X5_13 (tbk_51) rfl rfl ?_
    refine sw_bipush (pc' := 39) dX5_readMore_37 rfl rfl ?_
    refine sw_aload_n (pc' := 40) dX5_readMore_39 rfl rfl ?_
    refine sw_getn (pc' := 43) dX5_readMore_40 fl_X5_103 (tbk_51) rfl rfl ?_
    refine sw_iadd (pc' := 44) dX5_readMore_43 rfl ?_
    refine sw_aload_n (pc' := 45) dX5_readMore_44 rfl rfl ?_
    refine sw_iconst (pc' := 46) dX5_readMore_45 rfl ?_
    refine sw_bipush (pc' := 48) dX5_readMore_46 rfl rfl ?_
    refine sw_callVI (pc' := 51) (As := [vi 1, vi 99]) (rest := [vi (10 + (s32 51 3)), .ref (ad G 53)]) dX5_readMore_48 cv_X5_96 (tbk_51) (m_X5_number 1 99 s32) rfl rfl rfl rfl rfl (fun v48 s48 => ?_)
    refine sw_iast (pc' := 52) dX5_readMore_51 (tbk_53) rfl (fun s51 => ?_)
    refine sw_aload_n (pc' := 53) dX5_readMore_52 rfl rfl ?_
    refine sw_dup (pc' := 54) dX5_readMore_53 rfl rfl ?_
    refine sw_getn (pc' := 57) dX5_readMore_54 fl_X5_103 (tbk_51) rfl rfl ?_
    refine sw_iconst (pc' := 58) dX5_readMore_57 rfl ?_
    refine sw_iadd (pc' := 59) dX5_readMore_58 rfl ?_
    refine sw_putI (pc' := 62) dX5_readMore_59 fp_X5_103 (tbk_51) rfl rfl (fun s59 => ?_)
    refine sw_goto (pc' := 106) dX5_readMore_62 (by decide) ?_
    exact sw_vret dX5_readMore_106
def rm_X5_readLine : Room := { frames := 5, cells := 0, slots := 0, locals := 112 }
def f_X5_readLine_135   (σ : St) : Option (St) :=
  bV (f_X5_step σ) fun s136 => some s136
set_option maxRecDepth 20000 in
theorem s_X5_readLine_135     (σ : St) : SW G l RX5 cX5_readLine 2 rm_X5_readLine wV 135 [some (.ref (ad G 51)), none] [] σ (f_X5_readLine_135 σ) := by
  unfold f_X5_readLine_135
  refine sw_aload_n (pc' := 136) dX5_readLine_135 rfl rfl ?_
  refine sw_callVV (pc' := 139) (As := []) (rest := []) dX5_readLine_136 cv_X5_88 (tbk_51) (m_X5_step σ) rfl rfl rfl rfl rfl (fun s136 => ?_)
  exact sw_vret dX5_readLine_139
def f_X5_readLine_95   (x1 t0 t1 : Int) (σ : St) : Option (St) :=
  bV (pz σ 51 5 t1) fun s95 => bV (f_X5_step s95) fun s99 => if 0 < wr (s99 51 10) then
    some s99
  else
    bV (f_X5_readMore x1 s99) fun s112 => if wr (s112 51 10) = 0 then
      if wr (s112 51 14) = wr 3 then
        f_X5_readLine_135 s112
      else
        bV (f_X5_fails 2 s112) fun s132 => f_X5_readLine_135 s132
    else
      f_X5_readLine_135 s112
set_option maxRecDepth 20000 in
theorem s_X5_readLine_95     (x1 t0 t1 : Int) (σ : St) : SW G l RX5 cX5_readLine 2 rm_X5_readLine wV 95 [some (.ref (ad G 51)), some (vi x1)] [vi t1, .ref (ad G 51)] σ (f_X5_readLine_95 x1 t0 t1 σ) := by
  unfold f_X5_readLine_95
  refine sw_putZ (pc' := 98) dX5_readLine_95 fp_X5_118 (tbk_51) rfl rfl (fun s95 => ?_)
  refine sw_aload_n (pc' := 99) dX5_readLine_98 rfl rfl ?_
  refine sw_callVV (pc' := 102) (As := []) (rest := []) dX5_readLine_99 cv_X5_88 (tbk_51) (m_X5_step s95) rfl rfl rfl rfl rfl (fun s99 => ?_)
  refine sw_aload_n (pc' := 103) dX5_readLine_102 rfl rfl ?_
  refine sw_getn (pc' := 106) dX5_readLine_103 fl_X5_54 (tbk_51) rfl rfl ?_
  refine sw_if_le (tgt := 110) (pc' := 109) dX5_readLine_106 (by decide) rfl (fun _ => ?_) (fun _ => ?_)
  · exact sw_vret dX5_readLine_109
  · refine sw_aload_n (pc' := 111) dX5_readLine_110 rfl rfl ?_
    refine sw_iload_n (pc' := 112) dX5_readLine_111 rfl rfl ?_
    refine sw_callVV (pc' := 115) (As := [vi x1]) (rest := []) dX5_readLine_112 cv_X5_122 (tbk_51) (m_X5_readMore x1 s99) rfl rfl rfl rfl rfl (fun s112 => ?_)
    refine sw_aload_n (pc' := 116) dX5_readLine_115 rfl rfl ?_
    refine sw_getn (pc' := 119) dX5_readLine_116 fl_X5_54 (tbk_51) rfl rfl ?_
    refine sw_if_ne (tgt := 135) (pc' := 122) dX5_readLine_119 (by decide) rfl (fun _ => ?_) (fun _ => ?_)
    · refine sw_aload_n (pc' := 123) dX5_readLine_122 rfl rfl ?_
      refine sw_getn (pc' := 126) dX5_readLine_123 fl_X5_63 (tbk_51) rfl rfl ?_
      refine sw_iconst (pc' := 127) dX5_readLine_126 rfl ?_
      refine sw_icmp_eq (tgt := 135) (pc' := 130) dX5_readLine_127 (by decide) rfl (fun _ => ?_) (fun _ => ?_)
      · refine sw_msk [true, false] rfl ?_
        exact s_X5_readLine_135 s112
      · refine sw_aload_n (pc' := 131) dX5_readLine_130 rfl rfl ?_
        refine sw_iconst (pc' := 132) dX5_readLine_131 rfl ?_
        refine sw_callVV (pc' := 135) (As := [vi 2]) (rest := []) dX5_readLine_132 cv_X5_84 (tbk_51) (m_X5_fails 2 s112) rfl rfl rfl rfl rfl (fun s132 => ?_)
        refine sw_msk [true, false] rfl ?_
        exact s_X5_readLine_135 s132
    · refine sw_msk [true, false] rfl ?_
      exact s_X5_readLine_135 s112
def f_X5_readLine_90   (x1 t0 : Int) (σ : St) : Option (St) :=
  f_X5_readLine_95 x1 51 1 σ
set_option maxRecDepth 20000 in
theorem s_X5_readLine_90     (x1 t0 : Int) (σ : St) : SW G l RX5 cX5_readLine 2 rm_X5_readLine wV 90 [some (.ref (ad G 51)), some (vi x1)] [.ref (ad G 51)] σ (f_X5_readLine_90 x1 t0 σ) := by
  unfold f_X5_readLine_90
  refine sw_iconst (pc' := 91) dX5_readLine_90 rfl ?_
  refine sw_goto (pc' := 95) dX5_readLine_91 (by decide) ?_
  exact s_X5_readLine_95 x1 51 1 σ
def f_X5_readLine_76   (x1 : Int) (σ : St) : Option (St) :=
  if wr (σ 51 5) = 0 then
    if wr x1 = wr 6 then
      f_X5_readLine_90 x1 51 σ
    else
      f_X5_readLine_95 x1 51 0 σ
  else
    f_X5_readLine_90 x1 51 σ
set_option maxRecDepth 20000 in
theorem s_X5_readLine_76     (x1 : Int) (σ : St) : SW G l RX5 cX5_readLine 2 rm_X5_readLine wV 76 [some (.ref (ad G 51)), some (vi x1)] [] σ (f_X5_readLine_76 x1 σ) := by
  unfold f_X5_readLine_76
  refine sw_aload_n (pc' := 77) dX5_readLine_76 rfl rfl ?_
  refine sw_aload_n (pc' := 78) dX5_readLine_77 rfl rfl ?_
  refine sw_getn (pc' := 81) dX5_readLine_78 fl_X5_118 (tbk_51) rfl rfl ?_
  refine sw_if_ne (tgt := 90) (pc' := 84) dX5_readLine_81 (by decide) rfl (fun _ => ?_) (fun _ => ?_)
  · refine sw_iload_n (pc' := 85) dX5_readLine_84 rfl rfl ?_
    refine sw_bipush (pc' := 87) dX5_readLine_85 rfl rfl ?_
    refine sw_icmp_ne (tgt := 94) (pc' := 90) dX5_readLine_87 (by decide) rfl (fun _ => ?_) (fun _ => ?_)
    · exact s_X5_readLine_90 x1 51 σ
    · refine sw_iconst (pc' := 95) dX5_readLine_94 rfl ?_
      exact s_X5_readLine_95 x1 51 0 σ
  · exact s_X5_readLine_90 x1 51 σ
def f_X5_readLine_58   (x1 : Int) (σ : St) : Option (St) :=
  if wr x1 = wr 6 then
    if wr (σ 51 5) = 0 then
      f_X5_readLine_76 x1 σ
    else
      bV (f_X5_fails 4 σ) fun s73 => f_X5_readLine_76 x1 s73
  else
    f_X5_readLine_76 x1 σ
set_option maxRecDepth 20000 in
theorem s_X5_readLine_58     (x1 : Int) (σ : St) : SW G l RX5 cX5_readLine 2 rm_X5_readLine wV 58 [some (.ref (ad G 51)), some (vi x1)] [] σ (f_X5_readLine_58 x1 σ) := by
  unfold f_X5_readLine_58
  refine sw_iload_n (pc' := 59) dX5_readLine_58 rfl rfl ?_
  refine sw_bipush (pc' := 61) dX5_readLine_59 rfl rfl ?_
  refine sw_icmp_ne (tgt := 76) (pc' := 64) dX5_readLine_61 (by decide) rfl (fun _ => ?_) (fun _ => ?_)
  · refine sw_aload_n (pc' := 65) dX5_readLine_64 rfl rfl ?_
    refine sw_getn (pc' := 68) dX5_readLine_65 fl_X5_118 (tbk_51) rfl rfl ?_
    refine sw_if_eq (tgt := 76) (pc' := 71) dX5_readLine_68 (by decide) rfl (fun _ => ?_) (fun _ => ?_)
    · exact s_X5_readLine_76 x1 σ
    · refine sw_aload_n (pc' := 72) dX5_readLine_71 rfl rfl ?_
      refine sw_iconst (pc' := 73) dX5_readLine_72 rfl ?_
      refine sw_callVV (pc' := 76) (As := [vi 4]) (rest := []) dX5_readLine_73 cv_X5_84 (tbk_51) (m_X5_fails 4 σ) rfl rfl rfl rfl rfl (fun s73 => ?_)
      exact s_X5_readLine_76 x1 s73
  · exact s_X5_readLine_76 x1 σ
def f_X5_readLine_53   (x1 : Int) (σ : St) : Option (St) :=
  bV (f_X5_fails 5 σ) fun s55 => f_X5_readLine_58 x1 s55
set_option maxRecDepth 20000 in
theorem s_X5_readLine_53     (x1 : Int) (σ : St) : SW G l RX5 cX5_readLine 2 rm_X5_readLine wV 53 [some (.ref (ad G 51)), some (vi x1)] [] σ (f_X5_readLine_53 x1 σ) := by
  unfold f_X5_readLine_53
  refine sw_aload_n (pc' := 54) dX5_readLine_53 rfl rfl ?_
  refine sw_iconst (pc' := 55) dX5_readLine_54 rfl ?_
  refine sw_callVV (pc' := 58) (As := [vi 5]) (rest := []) dX5_readLine_55 cv_X5_84 (tbk_51) (m_X5_fails 5 σ) rfl rfl rfl rfl rfl (fun s55 => ?_)
  exact s_X5_readLine_58 x1 s55
def f_X5_readLine_36   (x1 : Int) (σ : St) : Option (St) :=
  if wr x1 = wr 4 then
    bV (ld σ 53 55 52) fun v47 => if wr v47 = wr 8 then
      f_X5_readLine_53 x1 σ
    else
      f_X5_readLine_58 x1 σ
  else
    f_X5_readLine_58 x1 σ
set_option maxRecDepth 20000 in
theorem s_X5_readLine_36     (x1 : Int) (σ : St) : SW G l RX5 cX5_readLine 2 rm_X5_readLine wV 36 [some (.ref (ad G 51)), some (vi x1)] [] σ (f_X5_readLine_36 x1 σ) := by
  unfold f_X5_readLine_36
  refine sw_iload_n (pc' := 37) dX5_readLine_36 rfl rfl ?_
  refine sw_iconst (pc' := 38) dX5_readLine_37 rfl ?_
  refine sw_icmp_ne (tgt := 58) (pc' := 41) dX5_readLine_38 (by decide) rfl (fun _ => ?_) (fun _ => ?_)
  · refine sw_aload_n (pc' := 42) dX5_readLine_41 rfl rfl ?_
    refine sw_getr (pc' := 45) dX5_readLine_42 fl_X5_13 (tbk_51) rfl rfl ?_
    refine sw_bipush (pc' := 47) dX5_readLine_45 rfl rfl ?_
    refine sw_iald (pc' := 48) dX5_readLine_47 (tbk_53) rfl (fun v47 => ?_)
    refine sw_bipush (pc' := 50) dX5_readLine_48 rfl rfl ?_
    refine sw_icmp_ne (tgt := 58) (pc' := 53) dX5_readLine_50 (by decide) rfl (fun _ => ?_) (fun _ => ?_)
    · exact s_X5_readLine_53 x1 σ
    · exact s_X5_readLine_58 x1 σ
  · exact s_X5_readLine_58 x1 σ
def f_X5_readLine  (σ : St) : Option (St) :=
  bI (f_X5_nameHere σ) fun v1 s1 => bI (f_X5_in (wr v1) 0 6 s1) fun v11 s11 => if v11 then
    if wr 3 < wr v1 then
      f_X5_readLine_36 v1 s11
    else
      if wr (s11 51 3) = wr 5 then
        f_X5_readLine_53 v1 s11
      else
        f_X5_readLine_36 v1 s11
  else
    bV (f_X5_fails 2 s11) fun s19 => some s19
set_option maxRecDepth 20000 in
theorem m_X5_readLine   (σ : St) : MT G l yX5_readLine cX5_readLine 2 none rm_X5_readLine [.ref (ad G 51)] wV σ (f_X5_readLine σ) := by
  refine mt_V (L := [some (.ref (ad G 51)), none]) rfl (Nat.le_of_ble_eq_true rfl) rfl ?_
  show SW G l RX5 cX5_readLine 2 rm_X5_readLine wV 0 [some (.ref (ad G 51)), none] [] σ (f_X5_readLine σ)
  unfold f_X5_readLine
  refine sw_aload_n (pc' := 1) dX5_readLine_0 rfl rfl ?_
  refine sw_callVI (pc' := 4) (As := []) (rest := []) dX5_readLine_1 cv_X5_112 (tbk_51) (m_X5_nameHere σ) rfl rfl rfl rfl rfl (fun v1 s1 => ?_)
  refine sw_istore_n (pc' := 5) (x := v1) (L' := [some (.ref (ad G 51)), some (vi v1)]) dX5_readLine_4 rfl (by decide) rfl rfl ?_
  refine sw_iload_n (pc' := 6) dX5_readLine_5 rfl rfl ?_
  refine sw_i2l (pc' := 7) dX5_readLine_6 rfl ?_
  refine sw_lconst (x := 0) (pc' := 8) dX5_readLine_7 rfl rfl ?_
  refine sw_ldc2 (n := 6) (pc' := 11) dX5_readLine_8 kl_X5_116 rfl ?_
  refine sw_callSB (pc' := 14) (As := [vl (wr v1), vl 0, vl 6]) (rest := []) dX5_readLine_11 cs_X5_46 (m_X5_in (wr v1) 0 6 s1) rfl rfl rfl rfl rfl (fun v11 s11 => ?_)
  refine sw_bif_ne (tgt := 23) (pc' := 17) dX5_readLine_14 (by decide) rfl (fun _ => ?_) (fun _ => ?_)
  · refine sw_iload_n (pc' := 24) dX5_readLine_23 rfl rfl ?_
    refine sw_iconst (pc' := 25) dX5_readLine_24 rfl ?_
    refine sw_icmp_gt (tgt := 36) (pc' := 28) dX5_readLine_25 (by decide) rfl (fun _ => ?_) (fun _ => ?_)
    · exact s_X5_readLine_36 v1 s11
    · refine sw_aload_n (pc' := 29) dX5_readLine_28 rfl rfl ?_
      refine sw_getn (pc' := 32) dX5_readLine_29 fl_X5_103 (tbk_51) rfl rfl ?_
      refine sw_iconst (pc' := 33) dX5_readLine_32 rfl ?_
      refine sw_icmp_eq (tgt := 53) (pc' := 36) dX5_readLine_33 (by decide) rfl (fun _ => ?_) (fun _ => ?_)
      · exact s_X5_readLine_53 v1 s11
      · exact s_X5_readLine_36 v1 s11
  · refine sw_aload_n (pc' := 18) dX5_readLine_17 rfl rfl ?_
    refine sw_iconst (pc' := 19) dX5_readLine_18 rfl ?_
    refine sw_callVV (pc' := 22) (As := [vi 2]) (rest := []) dX5_readLine_19 cv_X5_84 (tbk_51) (m_X5_fails 2 s11) rfl rfl rfl rfl rfl (fun s19 => ?_)
    exact sw_vret dX5_readLine_22
def rm_X5_text : Room := { frames := 6, cells := 0, slots := 0, locals := 133 }
def f_X5_text_135   : Nat → Int → Int → St → Option (Int × St)
  | 0, _, _, _ => none
  | n + 1, x1, x2, σ =>
    if wr x2 < wr 55 then
      bV (ld σ 53 55 x2) fun v151 => bV (sv σ 52 330 x2 v151) fun s152 => (f_X5_text_135 n) x1 (x2 + 1) s152
    else
      bV (pf σ 51 1 (σ 51 3)) fun s164 => bV (pf s164 51 23 0) fun s169 => bV (sv s169 59 2 0 (naz 0)) fun s178 => bV (sv s178 59 2 1 (naz 0)) fun s185 => some (x1, s185)
set_option maxRecDepth 20000 in
theorem s_X5_text_135     : ∀ (n : Nat) (x1 x2 : Int) (σ : St), SW G l RX5 cX5_text 3 rm_X5_text wI 135 [some (.ref (ad G 51)), some (vi x1), some (vi x2)] [] σ (f_X5_text_135 n x1 x2 σ) := by
  intro n
  induction n with
  | zero => intro x1 x2 σ; exact sw_none
  | succ n ih =>
    intro x1 x2 σ
    rw [f_X5_text_135]
    refine sw_iload_n (pc' := 136) dX5_text_135 rfl rfl ?_
    refine sw_bipush (pc' := 138) dX5_text_136 rfl rfl ?_
    refine sw_icmp_ge (tgt := 159) (pc' := 141) dX5_text_138 (by decide) rfl (fun _ => ?_) (fun _ => ?_)
    · refine sw_aload_n (pc' := 142) dX5_text_141 rfl rfl ?_
      refine sw_getr (pc' := 145) dX5_text_142 fl_X5_7 (tbk_51) rfl rfl ?_
      refine sw_iload_n (pc' := 146) dX5_text_145 rfl rfl ?_
      refine sw_aload_n (pc' := 147) dX5_text_146 rfl rfl ?_
      refine sw_getr (pc' := 150) dX5_text_147 fl_X5_13 (tbk_51) rfl rfl ?_
      refine sw_iload_n (pc' := 151) dX5_text_150 rfl rfl ?_
      refine sw_iald (pc' := 152) dX5_text_151 (tbk_53) rfl (fun v151 => ?_)
      refine sw_iast (pc' := 153) dX5_text_152 (tbk_52) rfl (fun s152 => ?_)
      refine sw_iinc (pc' := 156) (x := x2) (L' := [some (.ref (ad G 51)), some (vi x1), some (vi (x2 + 1))]) dX5_text_153 rfl (by decide) rfl rfl rfl ?_
      refine sw_goto (pc' := 135) dX5_text_156 (by decide) ?_
      exact (ih) x1 (x2 + 1) s152
    · refine sw_aload_n (pc' := 160) dX5_text_159 rfl rfl ?_
      refine sw_aload_n (pc' := 161) dX5_text_160 rfl rfl ?_
      refine sw_getn (pc' := 164) dX5_text_161 fl_X5_103 (tbk_51) rfl rfl ?_
      refine sw_putI (pc' := 167) dX5_text_164 fp_X5_131 (tbk_51) rfl rfl (fun s164 => ?_)
      refine sw_aload_n (pc' := 168) dX5_text_167 rfl rfl ?_
      refine sw_iconst (pc' := 169) dX5_text_168 rfl ?_
      refine sw_putI (pc' := 172) dX5_text_169 fp_X5_134 (tbk_51) rfl rfl (fun s169 => ?_)
      refine sw_aload_n (pc' := 173) dX5_text_172 rfl rfl ?_
      refine sw_getr (pc' := 176) dX5_text_173 fl_X5_31 (tbk_51) rfl rfl ?_
      refine sw_iconst (pc' := 177) dX5_text_176 rfl ?_
      refine sw_iconst (pc' := 178) dX5_text_177 rfl ?_
      refine sw_zast (pc' := 179) dX5_text_178 (tbk_59) rfl (fun s178 => ?_)
      refine sw_aload_n (pc' := 180) dX5_text_179 rfl rfl ?_
      refine sw_getr (pc' := 183) dX5_text_180 fl_X5_31 (tbk_51) rfl rfl ?_
      refine sw_iconst (pc' := 184) dX5_text_183 rfl ?_
      refine sw_iconst (pc' := 185) dX5_text_184 rfl ?_
      refine sw_zast (pc' := 186) dX5_text_185 (tbk_59) rfl (fun s185 => ?_)
      refine sw_iload_n (pc' := 187) dX5_text_186 rfl rfl ?_
      exact sw_iret dX5_text_187
def f_X5_text_105   (x1 : Int) (σ : St) : Option (Int × St) :=
  bV (pf σ 51 8 0) fun s107 => bV (pf s107 51 9 (s107 51 10)) fun s115 => if 0 < wr (s115 51 10) then
    some (((-10) - (s115 51 11)), s115)
  else
    f_X5_text_135 FU x1 0 s115
set_option maxRecDepth 20000 in
theorem s_X5_text_105     (x1 : Int) (σ : St) : SW G l RX5 cX5_text 3 rm_X5_text wI 105 [some (.ref (ad G 51)), some (vi x1), none] [] σ (f_X5_text_105 x1 σ) := by
  unfold f_X5_text_105
  refine sw_aload_n (pc' := 106) dX5_text_105 rfl rfl ?_
  refine sw_iconst (pc' := 107) dX5_text_106 rfl ?_
  refine sw_putI (pc' := 110) dX5_text_107 fp_X5_50 (tbk_51) rfl rfl (fun s107 => ?_)
  refine sw_aload_n (pc' := 111) dX5_text_110 rfl rfl ?_
  refine sw_aload_n (pc' := 112) dX5_text_111 rfl rfl ?_
  refine sw_getn (pc' := 115) dX5_text_112 fl_X5_54 (tbk_51) rfl rfl ?_
  refine sw_putI (pc' := 118) dX5_text_115 fp_X5_128 (tbk_51) rfl rfl (fun s115 => ?_)
  refine sw_aload_n (pc' := 119) dX5_text_118 rfl rfl ?_
  refine sw_getn (pc' := 122) dX5_text_119 fl_X5_54 (tbk_51) rfl rfl ?_
  refine sw_if_le (tgt := 133) (pc' := 125) dX5_text_122 (by decide) rfl (fun _ => ?_) (fun _ => ?_)
  · refine sw_bipush (pc' := 127) dX5_text_125 rfl rfl ?_
    refine sw_aload_n (pc' := 128) dX5_text_127 rfl rfl ?_
    refine sw_getn (pc' := 131) dX5_text_128 fl_X5_60 (tbk_51) rfl rfl ?_
    refine sw_isub (pc' := 132) dX5_text_131 rfl ?_
    exact sw_iret dX5_text_132
  · refine sw_iconst (pc' := 134) dX5_text_133 rfl ?_
    refine sw_istore_n (pc' := 135) (x := 0) (L' := [some (.ref (ad G 51)), some (vi x1), some (vi 0)]) dX5_text_134 rfl (by decide) rfl rfl ?_
    exact s_X5_text_135 FU x1 0 s115
def f_X5_text_81   (x1 : Int) (σ : St) : Option (Int × St) :=
  if wr (σ 51 10) = 0 then
    if wr (σ 51 6) < wr (σ 51 3) then
      f_X5_text_105 x1 σ
    else
      bV (f_X5_fails 6 σ) fun s102 => f_X5_text_105 x1 s102
  else
    f_X5_text_105 x1 σ
set_option maxRecDepth 20000 in
theorem s_X5_text_81     (x1 : Int) (σ : St) : SW G l RX5 cX5_text 3 rm_X5_text wI 81 [some (.ref (ad G 51)), some (vi x1), none] [] σ (f_X5_text_81 x1 σ) := by
  unfold f_X5_text_81
  refine sw_aload_n (pc' := 82) dX5_text_81 rfl rfl ?_
  refine sw_getn (pc' := 85) dX5_text_82 fl_X5_54 (tbk_51) rfl rfl ?_
  refine sw_if_ne (tgt := 105) (pc' := 88) dX5_text_85 (by decide) rfl (fun _ => ?_) (fun _ => ?_)
  · refine sw_aload_n (pc' := 89) dX5_text_88 rfl rfl ?_
    refine sw_getn (pc' := 92) dX5_text_89 fl_X5_100 (tbk_51) rfl rfl ?_
    refine sw_aload_n (pc' := 93) dX5_text_92 rfl rfl ?_
    refine sw_getn (pc' := 96) dX5_text_93 fl_X5_103 (tbk_51) rfl rfl ?_
    refine sw_icmp_lt (tgt := 105) (pc' := 99) dX5_text_96 (by decide) rfl (fun _ => ?_) (fun _ => ?_)
    · exact s_X5_text_105 x1 σ
    · refine sw_aload_n (pc' := 100) dX5_text_99 rfl rfl ?_
      refine sw_bipush (pc' := 102) dX5_text_100 rfl rfl ?_
      refine sw_callVV (pc' := 105) (As := [vi 6]) (rest := []) dX5_text_102 cv_X5_84 (tbk_51) (m_X5_fails 6 σ) rfl rfl rfl rfl rfl (fun s102 => ?_)
      exact s_X5_text_105 x1 s102
  · exact s_X5_text_105 x1 σ
def f_X5_text_57   : Nat → Int → St → Option (Int × St)
  | 0, _, _ => none
  | n + 1, x1, σ =>
    if wr (σ 51 10) = 0 then
      if wr (σ 51 14) = 0 then
        f_X5_text_81 x1 σ
      else
        bV (f_X5_readLine σ) fun s72 => (f_X5_text_57 n) (x1 + 1) s72
    else
      f_X5_text_81 x1 σ
set_option maxRecDepth 20000 in
theorem s_X5_text_57     : ∀ (n : Nat) (x1 : Int) (σ : St), SW G l RX5 cX5_text 3 rm_X5_text wI 57 [some (.ref (ad G 51)), some (vi x1), none] [] σ (f_X5_text_57 n x1 σ) := by
  intro n
  induction n with
  | zero => intro x1 σ; exact sw_none
  | succ n ih =>
    intro x1 σ
    rw [f_X5_text_57]
    refine sw_aload_n (pc' := 58) dX5_text_57 rfl rfl ?_
    refine sw_getn (pc' := 61) dX5_text_58 fl_X5_54 (tbk_51) rfl rfl ?_
    refine sw_if_ne (tgt := 81) (pc' := 64) dX5_text_61 (by decide) rfl (fun _ => ?_) (fun _ => ?_)
    · refine sw_aload_n (pc' := 65) dX5_text_64 rfl rfl ?_
      refine sw_getn (pc' := 68) dX5_text_65 fl_X5_63 (tbk_51) rfl rfl ?_
      refine sw_if_eq (tgt := 81) (pc' := 71) dX5_text_68 (by decide) rfl (fun _ => ?_) (fun _ => ?_)
      · exact s_X5_text_81 x1 σ
      · refine sw_aload_n (pc' := 72) dX5_text_71 rfl rfl ?_
        refine sw_callVV (pc' := 75) (As := []) (rest := []) dX5_text_72 cv_X5_125 (tbk_51) (m_X5_readLine σ) rfl rfl rfl rfl rfl (fun s72 => ?_)
        refine sw_iinc (pc' := 78) (x := x1) (L' := [some (.ref (ad G 51)), some (vi (x1 + 1)), none]) dX5_text_75 rfl (by decide) rfl rfl rfl ?_
        refine sw_goto (pc' := 57) dX5_text_78 (by decide) ?_
        exact (ih) (x1 + 1) s72
    · exact s_X5_text_81 x1 σ
def f_X5_text_34   : Nat → Int → Int → St → Option (Int × St)
  | 0, _, _, _ => none
  | n + 1, x1, x2, σ =>
    if wr x2 < wr 55 then
      bV (sv σ 53 55 x2 0) fun s46 => (f_X5_text_34 n) x1 (x2 + 1) s46
    else
      bV (f_X5_step σ) fun s54 => f_X5_text_57 FU x1 s54
set_option maxRecDepth 20000 in
theorem s_X5_text_34     : ∀ (n : Nat) (x1 x2 : Int) (σ : St), SW G l RX5 cX5_text 3 rm_X5_text wI 34 [some (.ref (ad G 51)), some (vi x1), some (vi x2)] [] σ (f_X5_text_34 n x1 x2 σ) := by
  intro n
  induction n with
  | zero => intro x1 x2 σ; exact sw_none
  | succ n ih =>
    intro x1 x2 σ
    rw [f_X5_text_34]
    refine sw_iload_n (pc' := 35) dX5_text_34 rfl rfl ?_
    refine sw_bipush (pc' := 37) dX5_text_35 rfl rfl ?_
    refine sw_icmp_ge (tgt := 53) (pc' := 40) dX5_text_37 (by decide) rfl (fun _ => ?_) (fun _ => ?_)
    · refine sw_aload_n (pc' := 41) dX5_text_40 rfl rfl ?_
      refine sw_getr (pc' := 44) dX5_text_41 fl_X5_13 (tbk_51) rfl rfl ?_
      refine sw_iload_n (pc' := 45) dX5_text_44 rfl rfl ?_
      refine sw_iconst (pc' := 46) dX5_text_45 rfl ?_
      refine sw_iast (pc' := 47) dX5_text_46 (tbk_53) rfl (fun s46 => ?_)
      refine sw_iinc (pc' := 50) (x := x2) (L' := [some (.ref (ad G 51)), some (vi x1), some (vi (x2 + 1))]) dX5_text_47 rfl (by decide) rfl rfl rfl ?_
      refine sw_goto (pc' := 34) dX5_text_50 (by decide) ?_
      exact (ih) x1 (x2 + 1) s46
    · refine sw_aload_n (pc' := 54) dX5_text_53 rfl rfl ?_
      refine sw_callVV (pc' := 57) (As := []) (rest := []) dX5_text_54 cv_X5_88 (tbk_51) (m_X5_step σ) rfl rfl rfl rfl rfl (fun s54 => ?_)
      refine sw_msk [true, true, false] rfl ?_
      exact s_X5_text_57 FU x1 s54
def f_X5_text  (σ : St) : Option (Int × St) :=
  bV (pf σ 51 10 0) fun s2 => bV (pf s2 51 12 0) fun s7 => bV (pf s7 51 3 0) fun s12 => bV (pf s12 51 4 0) fun s17 => bV (pz s17 51 5 0) fun s22 => bV (pf s22 51 6 (-1)) fun s27 => f_X5_text_34 FU 0 0 s27
set_option maxRecDepth 20000 in
theorem m_X5_text   (σ : St) : MT G l yX5_text cX5_text 3 (some .int) rm_X5_text [.ref (ad G 51)] wI σ (f_X5_text σ) := by
  refine mt_I (L := [some (.ref (ad G 51)), none, none]) rfl (Nat.le_of_ble_eq_true rfl) rfl ?_
  show SW G l RX5 cX5_text 3 rm_X5_text wI 0 [some (.ref (ad G 51)), none, none] [] σ (f_X5_text σ)
  unfold f_X5_text
  refine sw_aload_n (pc' := 1) dX5_text_0 rfl rfl ?_
  refine sw_iconst (pc' := 2) dX5_text_1 rfl ?_
  refine sw_putI (pc' := 5) dX5_text_2 fp_X5_54 (tbk_51) rfl rfl (fun s2 => ?_)
  refine sw_aload_n (pc' := 6) dX5_text_5 rfl rfl ?_
  refine sw_iconst (pc' := 7) dX5_text_6 rfl ?_
  refine sw_putI (pc' := 10) dX5_text_7 fp_X5_66 (tbk_51) rfl rfl (fun s7 => ?_)
  refine sw_aload_n (pc' := 11) dX5_text_10 rfl rfl ?_
  refine sw_iconst (pc' := 12) dX5_text_11 rfl ?_
  refine sw_putI (pc' := 15) dX5_text_12 fp_X5_103 (tbk_51) rfl rfl (fun s12 => ?_)
  refine sw_aload_n (pc' := 16) dX5_text_15 rfl rfl ?_
  refine sw_iconst (pc' := 17) dX5_text_16 rfl ?_
  refine sw_putI (pc' := 20) dX5_text_17 fp_X5_93 (tbk_51) rfl rfl (fun s17 => ?_)
  refine sw_aload_n (pc' := 21) dX5_text_20 rfl rfl ?_
  refine sw_iconst (pc' := 22) dX5_text_21 rfl ?_
  refine sw_putZ (pc' := 25) dX5_text_22 fp_X5_118 (tbk_51) rfl rfl (fun s22 => ?_)
  refine sw_aload_n (pc' := 26) dX5_text_25 rfl rfl ?_
  refine sw_iconst (pc' := 27) dX5_text_26 rfl ?_
  refine sw_putI (pc' := 30) dX5_text_27 fp_X5_100 (tbk_51) rfl rfl (fun s27 => ?_)
  refine sw_iconst (pc' := 31) dX5_text_30 rfl ?_
  refine sw_istore_n (pc' := 32) (x := 0) (L' := [some (.ref (ad G 51)), some (vi 0), none]) dX5_text_31 rfl (by decide) rfl rfl ?_
  refine sw_iconst (pc' := 33) dX5_text_32 rfl ?_
  refine sw_istore_n (pc' := 34) (x := 0) (L' := [some (.ref (ad G 51)), some (vi 0), some (vi 0)]) dX5_text_33 rfl (by decide) rfl rfl ?_
  exact s_X5_text_34 FU 0 0 s27
def rm_X5_fault : Room := { frames := 0, cells := 0, slots := 0, locals := 0 }
def f_X5_fault  (σ : St) : Option (Int × St) :=
  some ((σ 51 9), σ)
set_option maxRecDepth 20000 in
theorem m_X5_fault   (σ : St) : MT G l yX5_fault cX5_fault 1 (some .int) rm_X5_fault [.ref (ad G 51)] wI σ (f_X5_fault σ) := by
  refine mt_I (L := [some (.ref (ad G 51))]) rfl (Nat.le_of_ble_eq_true rfl) rfl ?_
  show SW G l RX5 cX5_fault 1 rm_X5_fault wI 0 [some (.ref (ad G 51))] [] σ (f_X5_fault σ)
  unfold f_X5_fault
  refine sw_aload_n (pc' := 1) dX5_fault_0 rfl rfl ?_
  refine sw_getn (pc' := 4) dX5_fault_1 fl_X5_128 (tbk_51) rfl rfl ?_
  exact sw_iret dX5_fault_4
def rm_X5_isRider : Room := { frames := 1, cells := 0, slots := 0, locals := 25 }
def f_X5_isRider (x1 : Int) (σ : St) : Option (Bool × St) :=
  bI (f_X5_in (wr x1) 0 (wr ((σ 51 1) - 1)) σ) fun v10 s10 => some (v10, s10)
set_option maxRecDepth 20000 in
theorem m_X5_isRider (x1 : Int)  (σ : St) : MT G l yX5_isRider cX5_isRider 2 (some .boolean) rm_X5_isRider [.ref (ad G 51), vi x1] wB σ (f_X5_isRider x1 σ) := by
  refine mt_B (L := [some (.ref (ad G 51)), some (vi x1)]) rfl (Nat.le_of_ble_eq_true rfl) rfl ?_
  show SW G l RX5 cX5_isRider 2 rm_X5_isRider wB 0 [some (.ref (ad G 51)), some (vi x1)] [] σ (f_X5_isRider x1 σ)
  unfold f_X5_isRider
  refine sw_iload_n (pc' := 1) dX5_isRider_0 rfl rfl ?_
  refine sw_i2l (pc' := 2) dX5_isRider_1 rfl ?_
  refine sw_lconst (x := 0) (pc' := 3) dX5_isRider_2 rfl rfl ?_
  refine sw_aload_n (pc' := 4) dX5_isRider_3 rfl rfl ?_
  refine sw_getn (pc' := 7) dX5_isRider_4 fl_X5_131 (tbk_51) rfl rfl ?_
  refine sw_iconst (pc' := 8) dX5_isRider_7 rfl ?_
  refine sw_isub (pc' := 9) dX5_isRider_8 rfl ?_
  refine sw_i2l (pc' := 10) dX5_isRider_9 rfl ?_
  refine sw_callSB (pc' := 13) (As := [vl (wr x1), vl 0, vl (wr ((σ 51 1) - 1))]) (rest := []) dX5_isRider_10 cs_X5_46 (m_X5_in (wr x1) 0 (wr ((σ 51 1) - 1)) σ) rfl rfl rfl rfl rfl (fun v10 s10 => ?_)
  exact sw_bret dX5_isRider_13
end GEN
end

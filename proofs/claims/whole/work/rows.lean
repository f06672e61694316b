section
-- ===== PART A: goes FIRST, ahead of the names: the tables' words, and 'selects' of the private methods out of them =====
/-- a private method of a class that the tables say can be made, by its rows of tables_1 -/
def lw_okq (q : MethodName × Nat) : Prop := (q.1.cls ≠ "java/lang/invoke/MethodHandle" ∧ q.1.cls ≠ "java/lang/invoke/VarHandle") ∧ Cond.instantiable q.1.cls q.2 ∈ tables_1 ∧ Cond.privateMethod q.1 ∈ tables_1 ∧ Cond.instanceMethod q.1 ∈ tables_1
theorem lw_p0 : lw_okq (⟨"GraphCourier$Matcher", "meet", "(JJ)Z"⟩, 5) := ⟨⟨by decide +kernel, by decide +kernel⟩, List.mem_of_getElem? (i := 259) (by decide +kernel), List.mem_of_getElem? (i := 420) (by decide +kernel), List.mem_of_getElem? (i := 421) (by decide +kernel)⟩
theorem lw_p1 : lw_okq (⟨"GraphCourier$Matcher", "becomePartners", "(II)Z"⟩, 5) := ⟨⟨by decide +kernel, by decide +kernel⟩, List.mem_of_getElem? (i := 259) (by decide +kernel), List.mem_of_getElem? (i := 426) (by decide +kernel), List.mem_of_getElem? (i := 427) (by decide +kernel)⟩
theorem lw_p2 : lw_okq (⟨"GraphCourier$Matcher", "matchThings", "(LGraphCourier$Thing;LGraphCourier$Thing;)Z"⟩, 5) := ⟨⟨by decide +kernel, by decide +kernel⟩, List.mem_of_getElem? (i := 259) (by decide +kernel), List.mem_of_getElem? (i := 430) (by decide +kernel), List.mem_of_getElem? (i := 431) (by decide +kernel)⟩
theorem lw_p3 : lw_okq (⟨"GraphCourier$Matcher", "meetAll", "(LGraphCourier$LongList;LGraphCourier$LongList;)Z"⟩, 5) := ⟨⟨by decide +kernel, by decide +kernel⟩, List.mem_of_getElem? (i := 259) (by decide +kernel), List.mem_of_getElem? (i := 438) (by decide +kernel), List.mem_of_getElem? (i := 439) (by decide +kernel)⟩
theorem lw_p4 : lw_okq (⟨"java/lang/Throwable", "fillInStackTrace", "(I)Ljava/lang/Throwable;"⟩, 6) := ⟨⟨by decide +kernel, by decide +kernel⟩, List.mem_of_getElem? (i := 496) (by decide +kernel), List.mem_of_getElem? (i := 494) (by decide +kernel), List.mem_of_getElem? (i := 495) (by decide +kernel)⟩
theorem lw_p5 : lw_okq (⟨"GraphCourier", "refuseFortyFirst", "()V"⟩, 6) := ⟨⟨by decide +kernel, by decide +kernel⟩, List.mem_of_getElem? (i := 20) (by decide +kernel), List.mem_of_getElem? (i := 532) (by decide +kernel), List.mem_of_getElem? (i := 533) (by decide +kernel)⟩
theorem lw_p6 : lw_okq (⟨"GraphCourier", "hasItem", "(II)Z"⟩, 6) := ⟨⟨by decide +kernel, by decide +kernel⟩, List.mem_of_getElem? (i := 20) (by decide +kernel), List.mem_of_getElem? (i := 632) (by decide +kernel), List.mem_of_getElem? (i := 633) (by decide +kernel)⟩
theorem lw_p7 : lw_okq (⟨"GraphCourier", "canHaveKey", "(IJ)Z"⟩, 6) := ⟨⟨by decide +kernel, by decide +kernel⟩, List.mem_of_getElem? (i := 20) (by decide +kernel), List.mem_of_getElem? (i := 647) (by decide +kernel), List.mem_of_getElem? (i := 648) (by decide +kernel)⟩
theorem lw_p8 : lw_okq (⟨"GraphCourier$Writer", "writeValue", "(JI)V"⟩, 6) := ⟨⟨by decide +kernel, by decide +kernel⟩, List.mem_of_getElem? (i := 187) (by decide +kernel), List.mem_of_getElem? (i := 673) (by decide +kernel), List.mem_of_getElem? (i := 674) (by decide +kernel)⟩
theorem lw_p9 : lw_okq (⟨"GraphCourier$Writer", "writeThing", "(II)V"⟩, 6) := ⟨⟨by decide +kernel, by decide +kernel⟩, List.mem_of_getElem? (i := 187) (by decide +kernel), List.mem_of_getElem? (i := 679) (by decide +kernel), List.mem_of_getElem? (i := 680) (by decide +kernel)⟩
theorem lw_p10 : lw_okq (⟨"GraphCourier$Writer", "writeByte", "(I)V"⟩, 6) := ⟨⟨by decide +kernel, by decide +kernel⟩, List.mem_of_getElem? (i := 187) (by decide +kernel), List.mem_of_getElem? (i := 683) (by decide +kernel), List.mem_of_getElem? (i := 684) (by decide +kernel)⟩
theorem lw_p11 : lw_okq (⟨"GraphCourier$Writer", "writeNumber", "(I)V"⟩, 6) := ⟨⟨by decide +kernel, by decide +kernel⟩, List.mem_of_getElem? (i := 187) (by decide +kernel), List.mem_of_getElem? (i := 690) (by decide +kernel), List.mem_of_getElem? (i := 691) (by decide +kernel)⟩
theorem lw_p12 : lw_okq (⟨"GraphCourier$Writer", "writeEight", "(J)V"⟩, 6) := ⟨⟨by decide +kernel, by decide +kernel⟩, List.mem_of_getElem? (i := 187) (by decide +kernel), List.mem_of_getElem? (i := 696) (by decide +kernel), List.mem_of_getElem? (i := 697) (by decide +kernel)⟩
theorem lw_p13 : lw_okq (⟨"GraphCourier$Writer", "writeBytes", "(LGraphCourier$LongList;)V"⟩, 6) := ⟨⟨by decide +kernel, by decide +kernel⟩, List.mem_of_getElem? (i := 187) (by decide +kernel), List.mem_of_getElem? (i := 701) (by decide +kernel), List.mem_of_getElem? (i := 702) (by decide +kernel)⟩
theorem lw_p14 : lw_okq (⟨"GraphCourier$Writer", "writePairs", "(LGraphCourier$Thing;I)V"⟩, 6) := ⟨⟨by decide +kernel, by decide +kernel⟩, List.mem_of_getElem? (i := 187) (by decide +kernel), List.mem_of_getElem? (i := 706) (by decide +kernel), List.mem_of_getElem? (i := 707) (by decide +kernel)⟩
theorem lw_p15 : lw_okq (⟨"GraphCourier$Writer", "writeString", "(J)V"⟩, 6) := ⟨⟨by decide +kernel, by decide +kernel⟩, List.mem_of_getElem? (i := 187) (by decide +kernel), List.mem_of_getElem? (i := 710) (by decide +kernel), List.mem_of_getElem? (i := 711) (by decide +kernel)⟩
def lw_privs_1 : List (MethodName × Nat) := [(⟨"GraphCourier$Matcher", "meet", "(JJ)Z"⟩, 5), (⟨"GraphCourier$Matcher", "becomePartners", "(II)Z"⟩, 5), (⟨"GraphCourier$Matcher", "matchThings", "(LGraphCourier$Thing;LGraphCourier$Thing;)Z"⟩, 5), (⟨"GraphCourier$Matcher", "meetAll", "(LGraphCourier$LongList;LGraphCourier$LongList;)Z"⟩, 5), (⟨"java/lang/Throwable", "fillInStackTrace", "(I)Ljava/lang/Throwable;"⟩, 6), (⟨"GraphCourier", "refuseFortyFirst", "()V"⟩, 6), (⟨"GraphCourier", "hasItem", "(II)Z"⟩, 6), (⟨"GraphCourier", "canHaveKey", "(IJ)Z"⟩, 6), (⟨"GraphCourier$Writer", "writeValue", "(JI)V"⟩, 6), (⟨"GraphCourier$Writer", "writeThing", "(II)V"⟩, 6), (⟨"GraphCourier$Writer", "writeByte", "(I)V"⟩, 6), (⟨"GraphCourier$Writer", "writeNumber", "(I)V"⟩, 6), (⟨"GraphCourier$Writer", "writeEight", "(J)V"⟩, 6), (⟨"GraphCourier$Writer", "writeBytes", "(LGraphCourier$LongList;)V"⟩, 6), (⟨"GraphCourier$Writer", "writePairs", "(LGraphCourier$Thing;I)V"⟩, 6), (⟨"GraphCourier$Writer", "writeString", "(J)V"⟩, 6)]
theorem lw_r1 : ∀ q ∈ lw_privs_1, lw_okq q := List.forall_mem_cons.mpr ⟨lw_p0, List.forall_mem_cons.mpr ⟨lw_p1, List.forall_mem_cons.mpr ⟨lw_p2, List.forall_mem_cons.mpr ⟨lw_p3, List.forall_mem_cons.mpr ⟨lw_p4, List.forall_mem_cons.mpr ⟨lw_p5, List.forall_mem_cons.mpr ⟨lw_p6, List.forall_mem_cons.mpr ⟨lw_p7, List.forall_mem_cons.mpr ⟨lw_p8, List.forall_mem_cons.mpr ⟨lw_p9, List.forall_mem_cons.mpr ⟨lw_p10, List.forall_mem_cons.mpr ⟨lw_p11, List.forall_mem_cons.mpr ⟨lw_p12, List.forall_mem_cons.mpr ⟨lw_p13, List.forall_mem_cons.mpr ⟨lw_p14, List.forall_mem_cons.mpr ⟨lw_p15, fun _ h => absurd h List.not_mem_nil⟩⟩⟩⟩⟩⟩⟩⟩⟩⟩⟩⟩⟩⟩⟩⟩
theorem lw_p16 : lw_okq (⟨"GraphCourier$Writer", "writeItems", "(LGraphCourier$Thing;I)V"⟩, 6) := ⟨⟨by decide +kernel, by decide +kernel⟩, List.mem_of_getElem? (i := 187) (by decide +kernel), List.mem_of_getElem? (i := 718) (by decide +kernel), List.mem_of_getElem? (i := 719) (by decide +kernel)⟩
theorem lw_p17 : lw_okq (⟨"GraphCourier$Writer", "writeObject", "(LGraphCourier$Thing;I)V"⟩, 6) := ⟨⟨by decide +kernel, by decide +kernel⟩, List.mem_of_getElem? (i := 187) (by decide +kernel), List.mem_of_getElem? (i := 722) (by decide +kernel), List.mem_of_getElem? (i := 723) (by decide +kernel)⟩
theorem lw_p18 : lw_okq (⟨"GraphCourier$Writer", "writeTraits", "(I)V"⟩, 6) := ⟨⟨by decide +kernel, by decide +kernel⟩, List.mem_of_getElem? (i := 187) (by decide +kernel), List.mem_of_getElem? (i := 726) (by decide +kernel), List.mem_of_getElem? (i := 727) (by decide +kernel)⟩
theorem lw_p19 : lw_okq (⟨"GraphCourier$Reader", "readValue", "(I)J"⟩, 11) := ⟨⟨by decide +kernel, by decide +kernel⟩, List.mem_of_getElem? (i := 216) (by decide +kernel), List.mem_of_getElem? (i := 751) (by decide +kernel), List.mem_of_getElem? (i := 752) (by decide +kernel)⟩
theorem lw_p20 : lw_okq (⟨"GraphCourier$Reader", "readByte", "()I"⟩, 11) := ⟨⟨by decide +kernel, by decide +kernel⟩, List.mem_of_getElem? (i := 216) (by decide +kernel), List.mem_of_getElem? (i := 755) (by decide +kernel), List.mem_of_getElem? (i := 756) (by decide +kernel)⟩
theorem lw_p21 : lw_okq (⟨"GraphCourier$Reader", "readInteger", "()J"⟩, 11) := ⟨⟨by decide +kernel, by decide +kernel⟩, List.mem_of_getElem? (i := 216) (by decide +kernel), List.mem_of_getElem? (i := 761) (by decide +kernel), List.mem_of_getElem? (i := 762) (by decide +kernel)⟩
theorem lw_p22 : lw_okq (⟨"GraphCourier$Reader", "readNumber", "()I"⟩, 11) := ⟨⟨by decide +kernel, by decide +kernel⟩, List.mem_of_getElem? (i := 216) (by decide +kernel), List.mem_of_getElem? (i := 765) (by decide +kernel), List.mem_of_getElem? (i := 766) (by decide +kernel)⟩
theorem lw_p23 : lw_okq (⟨"GraphCourier$Reader", "readWide", "(I)J"⟩, 11) := ⟨⟨by decide +kernel, by decide +kernel⟩, List.mem_of_getElem? (i := 216) (by decide +kernel), List.mem_of_getElem? (i := 772) (by decide +kernel), List.mem_of_getElem? (i := 773) (by decide +kernel)⟩
theorem lw_p24 : lw_okq (⟨"GraphCourier$Reader", "stopAt", "(I)V"⟩, 11) := ⟨⟨by decide +kernel, by decide +kernel⟩, List.mem_of_getElem? (i := 216) (by decide +kernel), List.mem_of_getElem? (i := 776) (by decide +kernel), List.mem_of_getElem? (i := 777) (by decide +kernel)⟩
theorem lw_p25 : lw_okq (⟨"GraphCourier$Reader", "readEight", "()J"⟩, 11) := ⟨⟨by decide +kernel, by decide +kernel⟩, List.mem_of_getElem? (i := 216) (by decide +kernel), List.mem_of_getElem? (i := 780) (by decide +kernel), List.mem_of_getElem? (i := 781) (by decide +kernel)⟩
theorem lw_p26 : lw_okq (⟨"GraphCourier$Reader", "readString", "()J"⟩, 11) := ⟨⟨by decide +kernel, by decide +kernel⟩, List.mem_of_getElem? (i := 216) (by decide +kernel), List.mem_of_getElem? (i := 784) (by decide +kernel), List.mem_of_getElem? (i := 785) (by decide +kernel)⟩
theorem lw_p27 : lw_okq (⟨"GraphCourier$Reader", "knownText", "(II)J"⟩, 11) := ⟨⟨by decide +kernel, by decide +kernel⟩, List.mem_of_getElem? (i := 216) (by decide +kernel), List.mem_of_getElem? (i := 788) (by decide +kernel), List.mem_of_getElem? (i := 789) (by decide +kernel)⟩
theorem lw_p28 : lw_okq (⟨"GraphCourier$Reader", "readThing", "(III)J"⟩, 11) := ⟨⟨by decide +kernel, by decide +kernel⟩, List.mem_of_getElem? (i := 216) (by decide +kernel), List.mem_of_getElem? (i := 795) (by decide +kernel), List.mem_of_getElem? (i := 796) (by decide +kernel)⟩
theorem lw_p29 : lw_okq (⟨"GraphCourier$Reader", "knownThing", "(III)J"⟩, 11) := ⟨⟨by decide +kernel, by decide +kernel⟩, List.mem_of_getElem? (i := 216) (by decide +kernel), List.mem_of_getElem? (i := 799) (by decide +kernel), List.mem_of_getElem? (i := 800) (by decide +kernel)⟩
theorem lw_p30 : lw_okq (⟨"GraphCourier$Reader", "readDate", "(LGraphCourier$Thing;II)V"⟩, 11) := ⟨⟨by decide +kernel, by decide +kernel⟩, List.mem_of_getElem? (i := 216) (by decide +kernel), List.mem_of_getElem? (i := 804) (by decide +kernel), List.mem_of_getElem? (i := 805) (by decide +kernel)⟩
theorem lw_p31 : lw_okq (⟨"GraphCourier$Reader", "readBytes", "(LGraphCourier$Thing;II)V"⟩, 11) := ⟨⟨by decide +kernel, by decide +kernel⟩, List.mem_of_getElem? (i := 216) (by decide +kernel), List.mem_of_getElem? (i := 808) (by decide +kernel), List.mem_of_getElem? (i := 809) (by decide +kernel)⟩
def lw_privs_2 : List (MethodName × Nat) := [(⟨"GraphCourier$Writer", "writeItems", "(LGraphCourier$Thing;I)V"⟩, 6), (⟨"GraphCourier$Writer", "writeObject", "(LGraphCourier$Thing;I)V"⟩, 6), (⟨"GraphCourier$Writer", "writeTraits", "(I)V"⟩, 6), (⟨"GraphCourier$Reader", "readValue", "(I)J"⟩, 11), (⟨"GraphCourier$Reader", "readByte", "()I"⟩, 11), (⟨"GraphCourier$Reader", "readInteger", "()J"⟩, 11), (⟨"GraphCourier$Reader", "readNumber", "()I"⟩, 11), (⟨"GraphCourier$Reader", "readWide", "(I)J"⟩, 11), (⟨"GraphCourier$Reader", "stopAt", "(I)V"⟩, 11), (⟨"GraphCourier$Reader", "readEight", "()J"⟩, 11), (⟨"GraphCourier$Reader", "readString", "()J"⟩, 11), (⟨"GraphCourier$Reader", "knownText", "(II)J"⟩, 11), (⟨"GraphCourier$Reader", "readThing", "(III)J"⟩, 11), (⟨"GraphCourier$Reader", "knownThing", "(III)J"⟩, 11), (⟨"GraphCourier$Reader", "readDate", "(LGraphCourier$Thing;II)V"⟩, 11), (⟨"GraphCourier$Reader", "readBytes", "(LGraphCourier$Thing;II)V"⟩, 11)]
theorem lw_r2 : ∀ q ∈ lw_privs_2, lw_okq q := List.forall_mem_cons.mpr ⟨lw_p16, List.forall_mem_cons.mpr ⟨lw_p17, List.forall_mem_cons.mpr ⟨lw_p18, List.forall_mem_cons.mpr ⟨lw_p19, List.forall_mem_cons.mpr ⟨lw_p20, List.forall_mem_cons.mpr ⟨lw_p21, List.forall_mem_cons.mpr ⟨lw_p22, List.forall_mem_cons.mpr ⟨lw_p23, List.forall_mem_cons.mpr ⟨lw_p24, List.forall_mem_cons.mpr ⟨lw_p25, List.forall_mem_cons.mpr ⟨lw_p26, List.forall_mem_cons.mpr ⟨lw_p27, List.forall_mem_cons.mpr ⟨lw_p28, List.forall_mem_cons.mpr ⟨lw_p29, List.forall_mem_cons.mpr ⟨lw_p30, List.forall_mem_cons.mpr ⟨lw_p31, fun _ h => absurd h List.not_mem_nil⟩⟩⟩⟩⟩⟩⟩⟩⟩⟩⟩⟩⟩⟩⟩⟩
theorem lw_p32 : lw_okq (⟨"GraphCourier$Reader", "readArray", "(LGraphCourier$Thing;III)V"⟩, 11) := ⟨⟨by decide +kernel, by decide +kernel⟩, List.mem_of_getElem? (i := 216) (by decide +kernel), List.mem_of_getElem? (i := 812) (by decide +kernel), List.mem_of_getElem? (i := 813) (by decide +kernel)⟩
theorem lw_p33 : lw_okq (⟨"GraphCourier$Reader", "readPairs", "(LGraphCourier$Thing;I)V"⟩, 11) := ⟨⟨by decide +kernel, by decide +kernel⟩, List.mem_of_getElem? (i := 216) (by decide +kernel), List.mem_of_getElem? (i := 816) (by decide +kernel), List.mem_of_getElem? (i := 817) (by decide +kernel)⟩
theorem lw_p34 : lw_okq (⟨"GraphCourier$Reader", "readObject", "(LGraphCourier$Thing;III)V"⟩, 11) := ⟨⟨by decide +kernel, by decide +kernel⟩, List.mem_of_getElem? (i := 216) (by decide +kernel), List.mem_of_getElem? (i := 823) (by decide +kernel), List.mem_of_getElem? (i := 824) (by decide +kernel)⟩
theorem lw_p35 : lw_okq (⟨"GraphCourier$Reader", "readTraits", "(II)I"⟩, 11) := ⟨⟨by decide +kernel, by decide +kernel⟩, List.mem_of_getElem? (i := 216) (by decide +kernel), List.mem_of_getElem? (i := 827) (by decide +kernel), List.mem_of_getElem? (i := 828) (by decide +kernel)⟩
theorem lw_p36 : lw_okq (⟨"GraphCourier$Reader", "knownTraits", "(II)I"⟩, 11) := ⟨⟨by decide +kernel, by decide +kernel⟩, List.mem_of_getElem? (i := 216) (by decide +kernel), List.mem_of_getElem? (i := 831) (by decide +kernel), List.mem_of_getElem? (i := 832) (by decide +kernel)⟩
theorem lw_p37 : lw_okq (⟨"GraphCourier$Reader", "keepDraft", "(I)I"⟩, 11) := ⟨⟨by decide +kernel, by decide +kernel⟩, List.mem_of_getElem? (i := 216) (by decide +kernel), List.mem_of_getElem? (i := 836) (by decide +kernel), List.mem_of_getElem? (i := 837) (by decide +kernel)⟩
theorem lw_p38 : lw_okq (⟨"GraphCourierModel", "newWide", "(J)J"⟩, 43) := ⟨⟨by decide +kernel, by decide +kernel⟩, List.mem_of_getElem? (i := 849) (by decide +kernel), List.mem_of_getElem? (i := 994) (by decide +kernel), List.mem_of_getElem? (i := 995) (by decide +kernel)⟩
theorem lw_p39 : lw_okq (⟨"GraphCourierModel", "newThing", "(IJII)I"⟩, 43) := ⟨⟨by decide +kernel, by decide +kernel⟩, List.mem_of_getElem? (i := 849) (by decide +kernel), List.mem_of_getElem? (i := 1004) (by decide +kernel), List.mem_of_getElem? (i := 1005) (by decide +kernel)⟩
theorem lw_p40 : lw_okq (⟨"GraphCourierModel", "valueOf", "(I)J"⟩, 43) := ⟨⟨by decide +kernel, by decide +kernel⟩, List.mem_of_getElem? (i := 849) (by decide +kernel), List.mem_of_getElem? (i := 1008) (by decide +kernel), List.mem_of_getElem? (i := 1009) (by decide +kernel)⟩
theorem lw_p41 : lw_okq (⟨"GraphCourierModel", "alike", "(JZIJJJ)I"⟩, 43) := ⟨⟨by decide +kernel, by decide +kernel⟩, List.mem_of_getElem? (i := 849) (by decide +kernel), List.mem_of_getElem? (i := 1033) (by decide +kernel), List.mem_of_getElem? (i := 1034) (by decide +kernel)⟩
theorem lw_p42 : lw_okq (⟨"GraphCourierModel", "newTraits", "(JZIJJJ)I"⟩, 43) := ⟨⟨by decide +kernel, by decide +kernel⟩, List.mem_of_getElem? (i := 849) (by decide +kernel), List.mem_of_getElem? (i := 1037) (by decide +kernel), List.mem_of_getElem? (i := 1038) (by decide +kernel)⟩
theorem lw_p43 : lw_okq (⟨"GraphCourierModel", "isThing", "(I)Z"⟩, 43) := ⟨⟨by decide +kernel, by decide +kernel⟩, List.mem_of_getElem? (i := 849) (by decide +kernel), List.mem_of_getElem? (i := 1049) (by decide +kernel), List.mem_of_getElem? (i := 1050) (by decide +kernel)⟩
theorem lw_p44 : lw_okq (⟨"GraphCourierModel", "isValue", "(J)Z"⟩, 43) := ⟨⟨by decide +kernel, by decide +kernel⟩, List.mem_of_getElem? (i := 849) (by decide +kernel), List.mem_of_getElem? (i := 1053) (by decide +kernel), List.mem_of_getElem? (i := 1054) (by decide +kernel)⟩
theorem lw_p45 : lw_okq (⟨"GraphCourierModel", "hasItems", "(I)Z"⟩, 43) := ⟨⟨by decide +kernel, by decide +kernel⟩, List.mem_of_getElem? (i := 849) (by decide +kernel), List.mem_of_getElem? (i := 1064) (by decide +kernel), List.mem_of_getElem? (i := 1065) (by decide +kernel)⟩
theorem lw_p46 : lw_okq (⟨"GraphCourierModel", "hasPairs", "(I)Z"⟩, 43) := ⟨⟨by decide +kernel, by decide +kernel⟩, List.mem_of_getElem? (i := 849) (by decide +kernel), List.mem_of_getElem? (i := 1072) (by decide +kernel), List.mem_of_getElem? (i := 1073) (by decide +kernel)⟩
theorem lw_p47 : lw_okq (⟨"GraphCourierModel", "isMember", "(IJ)Z"⟩, 43) := ⟨⟨by decide +kernel, by decide +kernel⟩, List.mem_of_getElem? (i := 849) (by decide +kernel), List.mem_of_getElem? (i := 1076) (by decide +kernel), List.mem_of_getElem? (i := 1077) (by decide +kernel)⟩
def lw_privs_3 : List (MethodName × Nat) := [(⟨"GraphCourier$Reader", "readArray", "(LGraphCourier$Thing;III)V"⟩, 11), (⟨"GraphCourier$Reader", "readPairs", "(LGraphCourier$Thing;I)V"⟩, 11), (⟨"GraphCourier$Reader", "readObject", "(LGraphCourier$Thing;III)V"⟩, 11), (⟨"GraphCourier$Reader", "readTraits", "(II)I"⟩, 11), (⟨"GraphCourier$Reader", "knownTraits", "(II)I"⟩, 11), (⟨"GraphCourier$Reader", "keepDraft", "(I)I"⟩, 11), (⟨"GraphCourierModel", "newWide", "(J)J"⟩, 43), (⟨"GraphCourierModel", "newThing", "(IJII)I"⟩, 43), (⟨"GraphCourierModel", "valueOf", "(I)J"⟩, 43), (⟨"GraphCourierModel", "alike", "(JZIJJJ)I"⟩, 43), (⟨"GraphCourierModel", "newTraits", "(JZIJJJ)I"⟩, 43), (⟨"GraphCourierModel", "isThing", "(I)Z"⟩, 43), (⟨"GraphCourierModel", "isValue", "(J)Z"⟩, 43), (⟨"GraphCourierModel", "hasItems", "(I)Z"⟩, 43), (⟨"GraphCourierModel", "hasPairs", "(I)Z"⟩, 43), (⟨"GraphCourierModel", "isMember", "(IJ)Z"⟩, 43)]
theorem lw_r3 : ∀ q ∈ lw_privs_3, lw_okq q := List.forall_mem_cons.mpr ⟨lw_p32, List.forall_mem_cons.mpr ⟨lw_p33, List.forall_mem_cons.mpr ⟨lw_p34, List.forall_mem_cons.mpr ⟨lw_p35, List.forall_mem_cons.mpr ⟨lw_p36, List.forall_mem_cons.mpr ⟨lw_p37, List.forall_mem_cons.mpr ⟨lw_p38, List.forall_mem_cons.mpr ⟨lw_p39, List.forall_mem_cons.mpr ⟨lw_p40, List.forall_mem_cons.mpr ⟨lw_p41, List.forall_mem_cons.mpr ⟨lw_p42, List.forall_mem_cons.mpr ⟨lw_p43, List.forall_mem_cons.mpr ⟨lw_p44, List.forall_mem_cons.mpr ⟨lw_p45, List.forall_mem_cons.mpr ⟨lw_p46, List.forall_mem_cons.mpr ⟨lw_p47, fun _ h => absurd h List.not_mem_nil⟩⟩⟩⟩⟩⟩⟩⟩⟩⟩⟩⟩⟩⟩⟩⟩
theorem lw_p48 : lw_okq (⟨"GraphCourierModel", "pairAt", "(IJ)I"⟩, 43) := ⟨⟨by decide +kernel, by decide +kernel⟩, List.mem_of_getElem? (i := 849) (by decide +kernel), List.mem_of_getElem? (i := 1080) (by decide +kernel), List.mem_of_getElem? (i := 1081) (by decide +kernel)⟩
theorem lw_p49 : lw_okq (⟨"GraphCourierModel", "isAllowed", "(J)Z"⟩, 43) := ⟨⟨by decide +kernel, by decide +kernel⟩, List.mem_of_getElem? (i := 849) (by decide +kernel), List.mem_of_getElem? (i := 1088) (by decide +kernel), List.mem_of_getElem? (i := 1089) (by decide +kernel)⟩
theorem lw_p50 : lw_okq (⟨"GraphCourierModel", "clearLists", "()V"⟩, 43) := ⟨⟨by decide +kernel, by decide +kernel⟩, List.mem_of_getElem? (i := 849) (by decide +kernel), List.mem_of_getElem? (i := 1096) (by decide +kernel), List.mem_of_getElem? (i := 1097) (by decide +kernel)⟩
theorem lw_p51 : lw_okq (⟨"GraphCourierModel", "emitValue", "(J)V"⟩, 43) := ⟨⟨by decide +kernel, by decide +kernel⟩, List.mem_of_getElem? (i := 849) (by decide +kernel), List.mem_of_getElem? (i := 1100) (by decide +kernel), List.mem_of_getElem? (i := 1101) (by decide +kernel)⟩
theorem lw_p52 : lw_okq (⟨"GraphCourierModel", "emit", "(I)V"⟩, 43) := ⟨⟨by decide +kernel, by decide +kernel⟩, List.mem_of_getElem? (i := 849) (by decide +kernel), List.mem_of_getElem? (i := 1104) (by decide +kernel), List.mem_of_getElem? (i := 1105) (by decide +kernel)⟩
theorem lw_p53 : lw_okq (⟨"GraphCourierModel", "emitNumber", "(I)V"⟩, 43) := ⟨⟨by decide +kernel, by decide +kernel⟩, List.mem_of_getElem? (i := 849) (by decide +kernel), List.mem_of_getElem? (i := 1109) (by decide +kernel), List.mem_of_getElem? (i := 1110) (by decide +kernel)⟩
theorem lw_p54 : lw_okq (⟨"GraphCourierModel", "emitEight", "(J)V"⟩, 43) := ⟨⟨by decide +kernel, by decide +kernel⟩, List.mem_of_getElem? (i := 849) (by decide +kernel), List.mem_of_getElem? (i := 1116) (by decide +kernel), List.mem_of_getElem? (i := 1117) (by decide +kernel)⟩
theorem lw_p55 : lw_okq (⟨"GraphCourierModel", "emitString", "(J)V"⟩, 43) := ⟨⟨by decide +kernel, by decide +kernel⟩, List.mem_of_getElem? (i := 849) (by decide +kernel), List.mem_of_getElem? (i := 1120) (by decide +kernel), List.mem_of_getElem? (i := 1121) (by decide +kernel)⟩
theorem lw_p56 : lw_okq (⟨"GraphCourierModel", "emitThing", "(I)V"⟩, 43) := ⟨⟨by decide +kernel, by decide +kernel⟩, List.mem_of_getElem? (i := 849) (by decide +kernel), List.mem_of_getElem? (i := 1124) (by decide +kernel), List.mem_of_getElem? (i := 1125) (by decide +kernel)⟩
theorem lw_p57 : lw_okq (⟨"GraphCourierModel", "push", "(I)V"⟩, 43) := ⟨⟨by decide +kernel, by decide +kernel⟩, List.mem_of_getElem? (i := 849) (by decide +kernel), List.mem_of_getElem? (i := 1128) (by decide +kernel), List.mem_of_getElem? (i := 1129) (by decide +kernel)⟩
theorem lw_p58 : lw_okq (⟨"GraphCourierModel", "emitTraits", "(I)V"⟩, 43) := ⟨⟨by decide +kernel, by decide +kernel⟩, List.mem_of_getElem? (i := 849) (by decide +kernel), List.mem_of_getElem? (i := 1132) (by decide +kernel), List.mem_of_getElem? (i := 1133) (by decide +kernel)⟩
theorem lw_p59 : lw_okq (⟨"GraphCourierModel", "goOn", "()V"⟩, 43) := ⟨⟨by decide +kernel, by decide +kernel⟩, List.mem_of_getElem? (i := 849) (by decide +kernel), List.mem_of_getElem? (i := 1136) (by decide +kernel), List.mem_of_getElem? (i := 1137) (by decide +kernel)⟩
theorem lw_p60 : lw_okq (⟨"GraphCourierModel", "takeValue", "()V"⟩, 43) := ⟨⟨by decide +kernel, by decide +kernel⟩, List.mem_of_getElem? (i := 849) (by decide +kernel), List.mem_of_getElem? (i := 1144) (by decide +kernel), List.mem_of_getElem? (i := 1145) (by decide +kernel)⟩
theorem lw_p61 : lw_okq (⟨"GraphCourierModel", "take", "()I"⟩, 43) := ⟨⟨by decide +kernel, by decide +kernel⟩, List.mem_of_getElem? (i := 849) (by decide +kernel), List.mem_of_getElem? (i := 1148) (by decide +kernel), List.mem_of_getElem? (i := 1149) (by decide +kernel)⟩
theorem lw_p62 : lw_okq (⟨"GraphCourierModel", "goes", "()Z"⟩, 43) := ⟨⟨by decide +kernel, by decide +kernel⟩, List.mem_of_getElem? (i := 849) (by decide +kernel), List.mem_of_getElem? (i := 1152) (by decide +kernel), List.mem_of_getElem? (i := 1153) (by decide +kernel)⟩
theorem lw_p63 : lw_okq (⟨"GraphCourierModel", "stopAt", "(I)V"⟩, 43) := ⟨⟨by decide +kernel, by decide +kernel⟩, List.mem_of_getElem? (i := 849) (by decide +kernel), List.mem_of_getElem? (i := 1156) (by decide +kernel), List.mem_of_getElem? (i := 1157) (by decide +kernel)⟩
def lw_privs_4 : List (MethodName × Nat) := [(⟨"GraphCourierModel", "pairAt", "(IJ)I"⟩, 43), (⟨"GraphCourierModel", "isAllowed", "(J)Z"⟩, 43), (⟨"GraphCourierModel", "clearLists", "()V"⟩, 43), (⟨"GraphCourierModel", "emitValue", "(J)V"⟩, 43), (⟨"GraphCourierModel", "emit", "(I)V"⟩, 43), (⟨"GraphCourierModel", "emitNumber", "(I)V"⟩, 43), (⟨"GraphCourierModel", "emitEight", "(J)V"⟩, 43), (⟨"GraphCourierModel", "emitString", "(J)V"⟩, 43), (⟨"GraphCourierModel", "emitThing", "(I)V"⟩, 43), (⟨"GraphCourierModel", "push", "(I)V"⟩, 43), (⟨"GraphCourierModel", "emitTraits", "(I)V"⟩, 43), (⟨"GraphCourierModel", "goOn", "()V"⟩, 43), (⟨"GraphCourierModel", "takeValue", "()V"⟩, 43), (⟨"GraphCourierModel", "take", "()I"⟩, 43), (⟨"GraphCourierModel", "goes", "()Z"⟩, 43), (⟨"GraphCourierModel", "stopAt", "(I)V"⟩, 43)]
theorem lw_r4 : ∀ q ∈ lw_privs_4, lw_okq q := List.forall_mem_cons.mpr ⟨lw_p48, List.forall_mem_cons.mpr ⟨lw_p49, List.forall_mem_cons.mpr ⟨lw_p50, List.forall_mem_cons.mpr ⟨lw_p51, List.forall_mem_cons.mpr ⟨lw_p52, List.forall_mem_cons.mpr ⟨lw_p53, List.forall_mem_cons.mpr ⟨lw_p54, List.forall_mem_cons.mpr ⟨lw_p55, List.forall_mem_cons.mpr ⟨lw_p56, List.forall_mem_cons.mpr ⟨lw_p57, List.forall_mem_cons.mpr ⟨lw_p58, List.forall_mem_cons.mpr ⟨lw_p59, List.forall_mem_cons.mpr ⟨lw_p60, List.forall_mem_cons.mpr ⟨lw_p61, List.forall_mem_cons.mpr ⟨lw_p62, List.forall_mem_cons.mpr ⟨lw_p63, fun _ h => absurd h List.not_mem_nil⟩⟩⟩⟩⟩⟩⟩⟩⟩⟩⟩⟩⟩⟩⟩⟩
theorem lw_p64 : lw_okq (⟨"GraphCourierModel", "takeNumber", "()I"⟩, 43) := ⟨⟨by decide +kernel, by decide +kernel⟩, List.mem_of_getElem? (i := 849) (by decide +kernel), List.mem_of_getElem? (i := 1160) (by decide +kernel), List.mem_of_getElem? (i := 1161) (by decide +kernel)⟩
theorem lw_p65 : lw_okq (⟨"GraphCourierModel", "takeEight", "()J"⟩, 43) := ⟨⟨by decide +kernel, by decide +kernel⟩, List.mem_of_getElem? (i := 849) (by decide +kernel), List.mem_of_getElem? (i := 1167) (by decide +kernel), List.mem_of_getElem? (i := 1168) (by decide +kernel)⟩
theorem lw_p66 : lw_okq (⟨"GraphCourierModel", "takeString", "()J"⟩, 43) := ⟨⟨by decide +kernel, by decide +kernel⟩, List.mem_of_getElem? (i := 849) (by decide +kernel), List.mem_of_getElem? (i := 1171) (by decide +kernel), List.mem_of_getElem? (i := 1172) (by decide +kernel)⟩
theorem lw_p67 : lw_okq (⟨"GraphCourierModel", "takeThing", "(II)V"⟩, 43) := ⟨⟨by decide +kernel, by decide +kernel⟩, List.mem_of_getElem? (i := 849) (by decide +kernel), List.mem_of_getElem? (i := 1176) (by decide +kernel), List.mem_of_getElem? (i := 1177) (by decide +kernel)⟩
theorem lw_p68 : lw_okq (⟨"GraphCourierModel", "takeTraits", "(II)I"⟩, 43) := ⟨⟨by decide +kernel, by decide +kernel⟩, List.mem_of_getElem? (i := 849) (by decide +kernel), List.mem_of_getElem? (i := 1180) (by decide +kernel), List.mem_of_getElem? (i := 1181) (by decide +kernel)⟩
theorem lw_p69 : lw_okq (⟨"GraphCourierModel", "readOn", "()V"⟩, 43) := ⟨⟨by decide +kernel, by decide +kernel⟩, List.mem_of_getElem? (i := 849) (by decide +kernel), List.mem_of_getElem? (i := 1184) (by decide +kernel), List.mem_of_getElem? (i := 1185) (by decide +kernel)⟩
theorem lw_p70 : lw_okq (⟨"GraphCourierModel", "give", "(IZ)V"⟩, 43) := ⟨⟨by decide +kernel, by decide +kernel⟩, List.mem_of_getElem? (i := 849) (by decide +kernel), List.mem_of_getElem? (i := 1188) (by decide +kernel), List.mem_of_getElem? (i := 1189) (by decide +kernel)⟩
theorem lw_p71 : lw_okq (⟨"GraphCourierModel", "areSame", "(JJ)Z"⟩, 43) := ⟨⟨by decide +kernel, by decide +kernel⟩, List.mem_of_getElem? (i := 849) (by decide +kernel), List.mem_of_getElem? (i := 1249) (by decide +kernel), List.mem_of_getElem? (i := 1250) (by decide +kernel)⟩
theorem lw_p72 : lw_okq (⟨"GraphCourierModel", "areAlike", "(II)Z"⟩, 43) := ⟨⟨by decide +kernel, by decide +kernel⟩, List.mem_of_getElem? (i := 849) (by decide +kernel), List.mem_of_getElem? (i := 1253) (by decide +kernel), List.mem_of_getElem? (i := 1254) (by decide +kernel)⟩
def lw_privs_5 : List (MethodName × Nat) := [(⟨"GraphCourierModel", "takeNumber", "()I"⟩, 43), (⟨"GraphCourierModel", "takeEight", "()J"⟩, 43), (⟨"GraphCourierModel", "takeString", "()J"⟩, 43), (⟨"GraphCourierModel", "takeThing", "(II)V"⟩, 43), (⟨"GraphCourierModel", "takeTraits", "(II)I"⟩, 43), (⟨"GraphCourierModel", "readOn", "()V"⟩, 43), (⟨"GraphCourierModel", "give", "(IZ)V"⟩, 43), (⟨"GraphCourierModel", "areSame", "(JJ)Z"⟩, 43), (⟨"GraphCourierModel", "areAlike", "(II)Z"⟩, 43)]
theorem lw_r5 : ∀ q ∈ lw_privs_5, lw_okq q := List.forall_mem_cons.mpr ⟨lw_p64, List.forall_mem_cons.mpr ⟨lw_p65, List.forall_mem_cons.mpr ⟨lw_p66, List.forall_mem_cons.mpr ⟨lw_p67, List.forall_mem_cons.mpr ⟨lw_p68, List.forall_mem_cons.mpr ⟨lw_p69, List.forall_mem_cons.mpr ⟨lw_p70, List.forall_mem_cons.mpr ⟨lw_p71, List.forall_mem_cons.mpr ⟨lw_p72, fun _ h => absurd h List.not_mem_nil⟩⟩⟩⟩⟩⟩⟩⟩⟩
def lw_privs : List (MethodName × Nat) := lw_privs_1 ++ (lw_privs_2 ++ (lw_privs_3 ++ (lw_privs_4 ++ (lw_privs_5))))
def lw_tbl : List Cond := k2_sels lw_privs ++ tables_1
theorem lw_privs_ok : ∀ q ∈ lw_privs, lw_okq q := by
  show ∀ q ∈ lw_privs_1 ++ (lw_privs_2 ++ (lw_privs_3 ++ (lw_privs_4 ++ (lw_privs_5)))), lw_okq q
  exact List.forall_mem_append.mpr ⟨lw_r1, List.forall_mem_append.mpr ⟨lw_r2, List.forall_mem_append.mpr ⟨lw_r3, List.forall_mem_append.mpr ⟨lw_r4, lw_r5⟩⟩⟩⟩
end
section
/-! ===== BEGIN words of one list among another's, by their places ===== -/
theorem goodIn_r {big : List Cond} (ws : List Cond) (ps : List Nat) (hp : ws = ps.filterMap (fun i => big[i]?)) (h : ws.all goodWord = true) : GoodIn big ws := by
  intro w hw
  have h1 := List.all_eq_true.mp h w hw
  rw [hp] at hw
  obtain ⟨i, -, hi⟩ := List.mem_filterMap.mp hw
  have hm : w ∈ big := by first | exact List.mem_of_getElem? hi | exact List.getElem?_mem hi
  exact ⟨hm, good_of_word h1⟩
theorem goodIn_app {big a b : List Cond} (ha : GoodIn big a) (hb : GoodIn big b) : GoodIn big (a ++ b) := fun w h => (List.mem_append.mp h).elim (ha w) (hb w)
theorem goodIn_ca {big a b : List Cond} {c : Cond} (ha : GoodIn big (c :: a)) (hb : GoodIn big b) : GoodIn big (c :: (a ++ b)) := fun w h => (List.mem_cons.mp h).elim (fun e => ha w (List.mem_cons.mpr (Or.inl e))) (fun h => (List.mem_append.mp h).elim (fun h => ha w (List.mem_cons.mpr (Or.inr h))) (hb w))
theorem goodIn_sub {big ws : List Cond} (hm : ∀ w ∈ ws, w ∈ big) (h : ws.all goodWord = true) : GoodIn big ws := fun w hw => ⟨hm w hw, good_of_word (List.all_eq_true.mp h w hw)⟩
/-! ===== END ===== -/

/-! ===== BEGIN exceptions that leave a method, and their catching by the caller (launches without stack traces) ===== -/
section VXA
/-- where a method has thrown q: the class by its name, the cell, what was written, the world -/
def vx_T (XC : String → State → State → Prop) (st : State) (q : Addr) (t : State) (mc ms : Nat) (free : Addr → Prop) : Prop :=
  ∃ (E : String) (ce : Cell) (L : List Loc), XC E st t ∧ t.heap[q]? = some ce ∧ ce.vm = .none ∧ st.vm.findClass E = some ce.cls ∧ st.WarmedH t.vm ∧ st.sameButNew ({ t with vm := st.vm } : State) L mc ms ∧ ∀ z ∈ L, free z.base
def vx_Q (Qc : Array Value → State → Outcome → State → Prop) (XC : String → State → State → Prop) (mc ms : Nat) (free : Addr → Prop) : Array Value → State → Outcome → State → Prop := fun a st o t =>
  (Qc a st o t ∧ ∃ L, FrameEnd st o t L mc ms ∧ ∀ q ∈ L, free q.base) ∨ ∃ q, o = .threw q ∧ vx_T XC st q t mc ms free
/-- a callee that returns or throws -/
def vx_Met (l : Launch) (y : MethodName) (ws : List Cond) (rm : Room) (Pc : Array Value → State → Prop) (Qc : Array Value → State → Outcome → State → Prop) (XC : String → State → State → Prop) (mc ms : Nat) (free : Addr → Prop) : Prop :=
  MetFree l y (headSpec ws rm) Pc (fun _ _ _ _ _ => True) (vx_Q Qc XC mc ms free)
def vx_Post (XC : String → State → State → Prop) (mc ms : Nat) (free : Addr → Prop) : Pt → Array Value → Addr → Pt → Prop := fun A a q B =>
  ∃ (g : JFrame) (mk : MethodId) (t : State) (L : List Loc) (E : String) (ce : Cell), B.U.heap = t.heap ∧ B.U.vm = t.vm ∧ XC E (A.U.calling g mk a) t ∧ t.heap[q]? = some ce ∧ ce.vm = .none ∧ A.U.vm.findClass E = some ce.cls ∧ B.locs = A.locs ++ L ∧ (∀ z ∈ L, free z.base) ∧ B.cells = A.cells + mc ∧ B.slots = A.slots + ms
def vx_Back (l : Launch) (R : Room) (p : Program) (e : Env) (below : List Frame) (s : State) (sargs : Array Value) (y : MethodName) (len W9 : Nat)
    (Pre : Pt → Array Value → Prop) (Post : Pt → Array Value → Option Value → Pt → Prop) (PostX : Pt → Array Value → Addr → Pt → Prop) : Prop :=
  ∀ (m : MethodId) (meth : Method) (c : Code) (A : Pt) (g : JFrame) (ig : Instr) (mk : MethodId) (a : Array Value),
    Stand p l e R s m sargs below meth c A.U A.locs A.cells A.slots → g.method = m → g.locals.size = c.maxLocals → decode c.code g.pc = .ok (ig, len) →
    2 * g.monitorRoom + (g.stack.map fun v => v.category).sum ≤ W9 → A.U.methodNamed? y = some mk → Pre A a →
    (∃ (v : Option Value) (B : Pt), Stand p l e R s m sargs below meth c B.U B.locs B.cells B.slots ∧ Post A a v B ∧
      Steps p.tables e below (doInvoke e (A.U.setTop g) [] mk a).1 (B.U.setTop { g with pc := g.pc + len, stack := v.toList ++ g.stack })) ∨
    (∃ (q : Addr) (B : Pt), Stand p l e R s m sargs below meth c B.U B.locs B.cells B.slots ∧ PostX A a q B ∧
      Steps p.tables e below (doInvoke e (A.U.setTop g) [] mk a).1 ((B.U.setTop g).pushFrame (.throwing q)))
section Payer
variable {l : Launch} {R : Room} {p : Program} {e : Env} {below : List Frame} {s : State} {sargs : Array Value} {y : MethodName} {len W9 : Nat}
theorem vx_back {ws : List Cond} {rm : Room} {Pc : Array Value → State → Prop} {Qc : Array Value → State → Outcome → State → Prop} {XC : String → State → State → Prop} {mc ms : Nat} {free : Addr → Prop} {bytes : ByteArray} {maxL : Nat} {ret : Option FieldType}
    (hM : vx_Met l y ws rm Pc Qc XC mc ms free) (hblind : FrameBlind Pc) (hrc : rm.cells = mc) (hrs : rm.slots = ms)
    (hframes : rm.frames + 1 ≤ R.frames) (hlocals : W9 + (maxL + 11) + rm.locals ≤ R.locals)
    (hws : ∀ w ∈ ws, ∀ a' U, s.WarmedH U.vm → w.before a' U = true) (hcode : Cond.code y bytes maxL ret ∈ ws) (hinit : ∀ a' U, s.WarmedH U.vm → (Cond.initialized y.cls).before a' U = true) :
    vx_Back l R p e below s sargs y len W9 (PreOf R mc ms Pc) (PostOf Qc mc ms free) (vx_Post XC mc ms free) := by
  intro m meth c A g ig mk a X hg hsize hdg hW hn hp
  have h1 : (headSpec ws rm).pre.before a A.U = true := atoms_intro fun w hw => hws w hw _ _ X.warmed
  have h2 : (Cond.code y bytes maxL ret).before a A.U = true := hws _ hcode _ _ X.warmed
  have h3 : (Cond.initialized y.cls).before a A.U = true := hinit _ _ X.warmed
  have h4 : A.cells + (headSpec ws rm).room.cells ≤ R.cells := by rw [show (headSpec ws rm).room.cells = mc from hrc]; exact hp.1
  have h5 : A.slots + (headSpec ws rm).room.slots ≤ R.slots := by rw [show (headSpec ws rm).room.slots = ms from hrs]; exact hp.2.1
  have hPc : Pc a (A.U.calling g mk a) := hblind _ _ _ _ hp.2.2
  obtain ⟨U, Ls, c0, s0⟩ := A
  dsimp only [Pt.U, Pt.locs, Pt.cells, Pt.slots] at h1 h2 h3 h4 h5 X hn hPc ⊢
  obtain ⟨methY, cY, hmY, hcY, -, hlY, -, -, -, -⟩ := Cond.code_spec hn h2
  obtain ⟨kY, hkY, -⟩ := className_of_methodNamed hn
  have hinitY : kY.init = .initialized := Cond.initialized_spec (findClass_of_methodNamed hn) hkY h3
  have h : At U g.method c below := by rw [hg]; exact X.here
  have hlocals9 : W9 + (maxL + 11) + (headSpec ws rm).room.locals ≤ R.locals := hlocals
  have happ : (headSpec ws rm).appliesLoose y e.platform (U.calling g mk a) = true :=
    Spec.appliesLoose_calling (g := g) h hdg hn hkY hinitY
      (X.room_calling (g := g) (R' := (headSpec ws rm).room) hsize hmY hcY hframes (by rw [hlY]; omega) h4 h5) h1
  obtain ⟨mid, hmid⟩ := h.above
  have hfr : (U.setTop g).frames = (.java g :: mid) ++ below := by rw [State.frames_setTop' g h.top, hmid]; rfl
  obtain ⟨o, s₂, hsteps, -, hend, hq⟩ := Steps.callFree hM p X.admits X.cas X.clock (acts := []) hfr happ hPc trivial
  have hq' : vx_Q Qc XC mc ms free a (U.calling g mk a) o s₂ := hq
  rw [State.frames_setTop' g h.top] at hend
  obtain ⟨g₀, hg0⟩ := Option.isSome_iff_exists.mp h.top
  obtain ⟨r, hr⟩ := State.topJava?_eq_some.mp hg0
  have hr' : (({ U with heap := s₂.heap, slotsUsed := s₂.slotsUsed } : State).setVm s₂.vm).frames = .java g₀ :: r := hr
  rcases hq' with ⟨hqc, L, hfe, hL⟩ | ⟨q, rfl, E, ce, L, hx, hce, hcv, hcl, hW₂, hsm, hL⟩
  · obtain ⟨⟨v, rfl⟩, hW₂, e2, q2, q3, q4, q5, q6⟩ := id hfe
    have e3 : s₂ = ({ (U.calling g mk a).setFrames s₂.frames with heap := s₂.heap, slotsUsed := s₂.slotsUsed } : State).setVm s₂.vm := by
      have : s₂ = ({ s₂ with vm := (U.calling g mk a).vm } : State).setVm s₂.vm := rfl
      rw [e2] at this
      exact this
    obtain ⟨c₂, i₂, len₂, hc₂, hd₂, hf₂⟩ := hend
    have hW' : U.WarmedH s₂.vm := hW₂
    have hcc : c₂ = c := by
      have h1 : s₂.code? g.method = U.code? g.method := by
        rw [State.code?_eq, State.code?_eq, hW'.alike.method?]
      exact Option.some.inj (hc₂.symm.trans (h1.trans h.code))
    subst hcc
    have hlen : len₂ = len := by rw [hdg] at hd₂; cases hd₂; rfl
    subst hlen
    have hs₂ : s₂ = (({ U with heap := s₂.heap, slotsUsed := s₂.slotsUsed } : State).setVm s₂.vm).setTop { g with pc := g.pc + len₂, stack := v.toList ++ g.stack } := by
      refine e3.trans ?_
      rw [hf₂, State.calling_eq h.top, State.setFrames_setFrames, State.setTop_of_frames _ hr', hr]
      rfl
    have hsame : U.sameButNew ({ U with heap := s₂.heap, slotsUsed := s₂.slotsUsed } : State) L mc ms := by
      refine ⟨?_, q2, q3, q4, q5, q6⟩
      obtain ⟨t, ht, -⟩ := State.frames_cons hr
      show ({ U with heap := s₂.heap, slotsUsed := s₂.slotsUsed } : State) = { U.setFrames U.frames with heap := s₂.heap, slotsUsed := s₂.slotsUsed }
      rw [State.setFrames_self ht]
    subst hg
    refine Or.inl ⟨v, ⟨(({ U with heap := s₂.heap, slotsUsed := s₂.slotsUsed } : State).setVm s₂.vm), Ls ++ L, c0 + mc, s0 + ms⟩,
      ⟨X.admits, X.cas, X.clock, X.frames, X.room, X.hears, X.method, X.code, (X.here.setHeapUsed s₂.heap s₂.slotsUsed).setVm hW'.alike, X.tail, State.WarmedH.trans X.warmed hW', X.limits, X.bytes, X.same.trans (hsame.setVm s.vm)⟩,
      ⟨g, mk, s₂, L, rfl, rfl, hqc, rfl, hL, rfl, rfl⟩, ?_⟩
    show Steps p.tables e below _ ((({ U with heap := s₂.heap, slotsUsed := s₂.slotsUsed } : State).setVm s₂.vm).setTop { g with pc := g.pc + len₂, stack := v.toList ++ g.stack })
    rw [← hs₂]
    exact hsteps
  · obtain ⟨e2, q2, q3, q4, q5, q6⟩ := id hsm
    have e3 : s₂ = ({ (U.calling g mk a).setFrames s₂.frames with heap := s₂.heap, slotsUsed := s₂.slotsUsed } : State).setVm s₂.vm := by
      have : s₂ = ({ s₂ with vm := (U.calling g mk a).vm } : State).setVm s₂.vm := rfl
      rw [e2] at this
      exact this
    have hf₂ : s₂.frames = .throwing q :: .java g :: U.frames.tail := hend
    have hW' : U.WarmedH s₂.vm := hW₂
    have hs₂ : s₂ = ((({ U with heap := s₂.heap, slotsUsed := s₂.slotsUsed } : State).setVm s₂.vm).setTop g).pushFrame (.throwing q) := by
      refine e3.trans ?_
      rw [hf₂, State.calling_eq h.top, State.setFrames_setFrames, State.pushFrame, State.frames_setTop _ hr', State.setTop_of_frames _ hr', State.setFrames_setFrames, hr]
      rfl
    have hsame : U.sameButNew ({ U with heap := s₂.heap, slotsUsed := s₂.slotsUsed } : State) L mc ms := by
      refine ⟨?_, q2, q3, q4, q5, q6⟩
      obtain ⟨t, ht, -⟩ := State.frames_cons hr
      show ({ U with heap := s₂.heap, slotsUsed := s₂.slotsUsed } : State) = { U.setFrames U.frames with heap := s₂.heap, slotsUsed := s₂.slotsUsed }
      rw [State.setFrames_self ht]
    subst hg
    refine Or.inr ⟨q, ⟨(({ U with heap := s₂.heap, slotsUsed := s₂.slotsUsed } : State).setVm s₂.vm), Ls ++ L, c0 + mc, s0 + ms⟩,
      ⟨X.admits, X.cas, X.clock, X.frames, X.room, X.hears, X.method, X.code, (X.here.setHeapUsed s₂.heap s₂.slotsUsed).setVm hW'.alike, X.tail, State.WarmedH.trans X.warmed hW', X.limits, X.bytes, X.same.trans (hsame.setVm s.vm)⟩,
      ⟨g, mk, s₂, L, E, ce, rfl, rfl, hx, hce, hcv, hcl, rfl, hL, rfl, rfl⟩, ?_⟩
    show Steps p.tables e below _ (((({ U with heap := s₂.heap, slotsUsed := s₂.slotsUsed } : State).setVm s₂.vm).setTop g).pushFrame (.throwing q))
    rw [← hs₂]
    exact hsteps
end Payer
section Calls
variable {p : Program} {l : Launch} {e : Env} {R : Room} {s : State} {m : MethodId} {args : Array Value} {below : List Frame} {meth : Method} {c : Code} {T : State} {locs : List Loc} {cells slots : Nat}
theorem vx_callV (X : Stand p l e R s m args below meth c T locs cells slots) (hexec : p.tables.exec = Jvm.exec) {own C : String} {index : Nat} {y : MethodName} {bytes : ByteArray} {maxL : Nat} {ret : Option FieldType}
    (hown : s.vm.findClass own = some m.cls) (hlink : (Cond.methodLink own index y).before args s = true) (hinst : (Cond.instanceMethod y).before args s = true) (hsel : (Cond.selects C y y).before args s = true)
    (hcode : (Cond.code y bytes maxL ret).before args s = true) (hy : y.cls ≠ "java/lang/invoke/MethodHandle" ∧ y.cls ≠ "java/lang/invoke/VarHandle")
    {W9 : Nat} {Pre : Pt → Array Value → Prop} {Post : Pt → Array Value → Option Value → Pt → Prop} {PostX : Pt → Array Value → Addr → Pt → Prop} (hK : vx_Back l R p e below s args y 3 W9 Pre Post PostX)
    {b : Addr} {cellB : Cell} (hcell : T.heap[b]? = some cellB) (hobj : cellB.vm.isStatics = false) (hcls : s.vm.findClass C = some cellB.cls)
    {g : JFrame} (hg : g.method = m) (hsize : g.locals.size = c.maxLocals) {argsL rest : List Value} (hlen : ∀ sig, parseMethodDescriptor y.desc = some sig → argsL.length = sig.parameters.length)
    (hstack : g.stack = argsL.reverse ++ .ref b :: rest) (hW : 2 * g.monitorRoom + (rest.map fun v => v.category).sum ≤ W9) (hdg : decode c.code g.pc = .ok (.invokevirtual index, 3))
    (hpre : ∀ vm₁, s.WarmedH vm₁ → Pre ⟨T.setVm vm₁, locs, cells, slots⟩ (Value.ref b :: argsL).toArray) :
    (∃ (v : Option Value) (vm₁ : Vm) (B : Pt), s.WarmedH vm₁ ∧ Stand p l e R s m args below meth c B.U B.locs B.cells B.slots ∧ Post ⟨T.setVm vm₁, locs, cells, slots⟩ (Value.ref b :: argsL).toArray v B ∧
      ∀ target, Steps p.tables e below (B.U.setTop { g with pc := g.pc + 3, stack := v.toList ++ rest }) target → Steps p.tables e below (T.setTop g) target) ∨
    (∃ (q : Addr) (vm₁ : Vm) (B : Pt), s.WarmedH vm₁ ∧ Stand p l e R s m args below meth c B.U B.locs B.cells B.slots ∧ PostX ⟨T.setVm vm₁, locs, cells, slots⟩ (Value.ref b :: argsL).toArray q B ∧
      Steps p.tables e below (T.setTop g) ((B.U.setTop { g with stack := rest }).pushFrame (.throwing q))) := by
  obtain ⟨mk, methM, hnamed, hmethM, hstM, habM⟩ := Cond.instanceMethod_spec hinst
  obtain ⟨methM', cM, hmethM', -, -, -, -, -, -, hsigM⟩ := Cond.code_spec hnamed hcode
  cases hmethM.symm.trans hmethM'
  obtain ⟨c2, r2, m2, q1, q2, q3, q4, kP, hkP, hkPi⟩ := Cond.selects_spec hsel
  cases hcls.symm.trans q1
  cases (State.methodFound?_of_named hnamed hy).symm.trans q2
  cases hnamed.symm.trans q3
  have hselP : selectMethod e.platform s.vm cellB.cls mk = .method mk := by rw [Launch.admits_selectMethod X.admits]; exact q4
  obtain ⟨vm₁, X₁, hstep₁⟩ := X.invokevirtual hexec hown hlink hnamed hmethM hstM hkP hkPi hy (a := b) (cell := cellB) hcell
    (fun z h => by rw [h] at hobj; cases hobj) hselP hmethM habM hkP hkPi (g := g) hg (argsL := argsL) (rest := rest) (hlen _ hsigM) hstack hdg
  rcases hK m meth c ⟨T.setVm vm₁, locs, cells, slots⟩ { g with stack := rest } (.invokevirtual index) mk (Value.ref b :: argsL).toArray X₁ hg hsize hdg hW (X₁.named hnamed) (hpre vm₁ X₁.warmed) with ⟨v, B, X', hpost, hsteps⟩ | ⟨q, B, X', hpost, hsteps⟩
  · exact Or.inl ⟨v, vm₁, B, X₁.warmed, X', hpost, fun target h => hstep₁ _ fun acts => by rw [doInvoke_state]; exact hsteps.trans h⟩
  · exact Or.inr ⟨q, vm₁, B, X₁.warmed, X', hpost, hstep₁ _ fun acts => by rw [doInvoke_state]; exact hsteps⟩
theorem vx_callS (X : Stand p l e R s m args below meth c T locs cells slots) (hexec : p.tables.exec = Jvm.exec) {own : String} {index : Nat} {y : MethodName} {bytes : ByteArray} {maxL : Nat} {ret : Option FieldType}
    (hown : s.vm.findClass own = some m.cls) (hlink : (Cond.methodLink own index y).before args s = true) (hstat : (Cond.static y).before args s = true) (hinit : (Cond.initialized y.cls).before args s = true)
    (hcode : (Cond.code y bytes maxL ret).before args s = true) (hy : y.cls ≠ "java/lang/invoke/MethodHandle" ∧ y.cls ≠ "java/lang/invoke/VarHandle")
    {W9 : Nat} {Pre : Pt → Array Value → Prop} {Post : Pt → Array Value → Option Value → Pt → Prop} {PostX : Pt → Array Value → Addr → Pt → Prop} (hK : vx_Back l R p e below s args y 3 W9 Pre Post PostX)
    {g : JFrame} (hg : g.method = m) (hsize : g.locals.size = c.maxLocals) {argsL rest : List Value} (hlen : ∀ sig, parseMethodDescriptor y.desc = some sig → argsL.length = sig.parameters.length)
    (hstack : g.stack = argsL.reverse ++ rest) (hW : 2 * g.monitorRoom + (rest.map fun v => v.category).sum ≤ W9) (hdg : decode c.code g.pc = .ok (.invokestatic index, 3))
    (hpre : ∀ vm₁, s.WarmedH vm₁ → Pre ⟨T.setVm vm₁, locs, cells, slots⟩ argsL.toArray) :
    (∃ (v : Option Value) (vm₁ : Vm) (B : Pt), s.WarmedH vm₁ ∧ Stand p l e R s m args below meth c B.U B.locs B.cells B.slots ∧ Post ⟨T.setVm vm₁, locs, cells, slots⟩ argsL.toArray v B ∧
      ∀ target, Steps p.tables e below (B.U.setTop { g with pc := g.pc + 3, stack := v.toList ++ rest }) target → Steps p.tables e below (T.setTop g) target) ∨
    (∃ (q : Addr) (vm₁ : Vm) (B : Pt), s.WarmedH vm₁ ∧ Stand p l e R s m args below meth c B.U B.locs B.cells B.slots ∧ PostX ⟨T.setVm vm₁, locs, cells, slots⟩ argsL.toArray q B ∧
      Steps p.tables e below (T.setTop g) ((B.U.setTop { g with stack := rest }).pushFrame (.throwing q))) := by
  obtain ⟨mk, hnamed⟩ := Cond.code_named hcode
  obtain ⟨methM, cM, hmethM, -, -, -, -, -, -, hsigM⟩ := Cond.code_spec hnamed hcode
  have hstatic : methM.isStatic = true := Cond.static_spec hnamed hmethM hstat
  obtain ⟨kP, hkP, -⟩ := className_of_methodNamed hnamed
  have hinitP : kP.init = .initialized := Cond.initialized_spec (findClass_of_methodNamed hnamed) hkP hinit
  obtain ⟨vm₁, X₁, hstep₁⟩ := X.invokestatic hexec hown hlink hnamed hmethM hstatic hkP hinitP hy (g := g) hg (argsL := argsL) (rest := rest) (hlen _ hsigM) hstack hdg
  rcases hK m meth c ⟨T.setVm vm₁, locs, cells, slots⟩ { g with stack := rest } (.invokestatic index) mk argsL.toArray X₁ hg hsize hdg hW (X₁.named hnamed) (hpre vm₁ X₁.warmed) with ⟨v, B, X', hpost, hsteps⟩ | ⟨q, B, X', hpost, hsteps⟩
  · exact Or.inl ⟨v, vm₁, B, X₁.warmed, X', hpost, fun target h => hstep₁ _ fun acts => by rw [doInvoke_state]; exact hsteps.trans h⟩
  · exact Or.inr ⟨q, vm₁, B, X₁.warmed, X', hpost, hstep₁ _ fun acts => by rw [doInvoke_state]; exact hsteps⟩
end Calls
theorem vx_cls {s : State} {T : State} {vm₁ : Vm} {E : String} {k : ClassId} (hW : s.WarmedH vm₁) (h : (T.setVm vm₁).vm.findClass E = some k) : s.vm.findClass E = some k := by
  have h1 : vm₁.findClass E = some k := h
  rw [hW.alike.findClass] at h1
  exact h1
/-- the method's frame g, with q thrown over it -/
def vx_W (p : Program) (l : Launch) (e : Env) (R : Room) (s : State) (m : MethodId) (args : Array Value) (below : List Frame) (meth : Method) (c : Code) (H : Heap) (locs : List Loc) (cells slots : Nat) (Q : State → Prop) (g : JFrame) (q : Addr) : Prop :=
  ∀ T : State, T.heap = H → Stand p l e R s m args below meth c T locs cells slots → ∃ t, Steps p.tables e below ((T.setTop g).pushFrame (.throwing q)) t ∧ Q t
def vx_Run (p : Program) (l : Launch) (e : Env) (R : Room) (s : State) (m : MethodId) (args : Array Value) (below : List Frame) (meth : Method) (c : Code) (H : Heap) (locs : List Loc) (cells slots mc ms : Nat) (g : JFrame) (rest : List Value) (Qa : State → Outcome → State → Prop) (XC : String → State → State → Prop) (free : Addr → Prop) : Prop :=
  ∀ T : State, T.heap = H → Stand p l e R s m args below meth c T locs cells slots →
    (∃ (v : Option Value) (st₀ t T' : State) (L : List Loc), st₀.heap = H ∧ Stand p l e R s m args below meth c T' (locs ++ L) (cells + mc) (slots + ms) ∧ (∀ q ∈ L, free q.base) ∧ T'.heap = t.heap ∧ T'.vm = t.vm ∧ Qa st₀ (.returned v) t ∧
      Goes p e below T g T' { g with pc := g.pc + 3, stack := v.toList ++ rest }) ∨
    (∃ (q : Addr) (st₀ t T' : State) (L : List Loc) (E : String) (ce : Cell), st₀.heap = H ∧ Stand p l e R s m args below meth c T' (locs ++ L) (cells + mc) (slots + ms) ∧ (∀ z ∈ L, free z.base) ∧ T'.heap = t.heap ∧ T'.vm = t.vm ∧ XC E st₀ t ∧ t.heap[q]? = some ce ∧ ce.vm = .none ∧ s.vm.findClass E = some ce.cls ∧
      Steps p.tables e below (T.setTop g) ((T'.setTop { g with stack := rest }).pushFrame (.throwing q)))
def vx_X {S : Type} (px : S → Prop) (B : String → S → State → Prop) (A : Nat → Prop) : String → State → State → Prop := fun E st t => ∃ u : S, px u ∧ B E u t ∧ va_F A st t
section Runs
variable {p : Program} {l : Launch} {e : Env} {R : Room} {s : State} {m : MethodId} {args : Array Value} {below : List Frame} {meth : Method} {c : Code} {H : Heap} {locs : List Loc} {cells slots : Nat}
variable {y : MethodName} {bytes cc : ByteArray} {maxL nL mc ms n index : Nat} {ret : Option FieldType} {ws : List Cond} {rm : Room} {Pc : Array Value → State → Prop} {Qc : Array Value → State → Outcome → State → Prop} {XC : String → State → State → Prop} {free : Addr → Prop} {Ts : List Cond} {own C : String} {b : Addr} {As rest : List Value} {g : JFrame}
theorem vx_callBack (cb : CallB R s args own index y bytes maxL ret ws rm mc ms n) (hM : vx_Met l y ws rm Pc Qc XC mc ms free) (hbl : FrameBlind Pc) : vx_Back l R p e below s args y 3 8 (PreOf R mc ms Pc) (PostOf Qc mc ms free) (vx_Post XC mc ms free) := by
  obtain ⟨hrc, hrs, hfr, hlo, hws, hcw, -, hini, -⟩ := cb
  exact vx_back (bytes := bytes) (maxL := maxL) (ret := ret) hM hbl hrc hrs hfr hlo hws hcw (fun a' U hW => word_at hW (Or.inl (by first | rfl | simp [Cond.onTables, Cond.keeps, Cond.steady])) hini)
theorem vx_runV (S : CallFix p m c cc nL s args Ts own) (hM : vx_Met l y ws rm Pc Qc XC mc ms free) (cw : CallW R s args own C index y bytes maxL ret ws rm mc ms n) (hp : PreV s H C b Pc As)
    (hg : g.method = m) (hn : As.length = n) (hsize : g.locals.size = nL) (hstack : g.stack = As.reverse ++ .ref b :: rest) (hW : 2 * g.monitorRoom + (rest.map fun v => v.category).sum ≤ 8) (hdg : decode cc g.pc = .ok (.invokevirtual index, 3)) (hf : cells + mc ≤ R.cells ∧ slots + ms ≤ R.slots) :
    vx_Run p l e R s m args below meth c H locs cells slots mc ms g rest (Qc (Value.ref b :: As).toArray) XC free := by
  have hK : vx_Back l R p e below s args y 3 8 (PreOf R mc ms Pc) (PostOf Qc mc ms free) (vx_Post XC mc ms free) := vx_callBack cw.1 hM hp.1
  obtain ⟨⟨-, -, -, -, -, -, hcode, -, hy, hlen, hl⟩, hin, hse⟩ := cw
  obtain ⟨hx, hb, hml, ho, -⟩ := S
  obtain ⟨-, ⟨cellB, hcB, hoB, hclB⟩, hPc⟩ := hp
  intro T hT X
  rcases vx_callV X hx (C := C) (bytes := bytes) (maxL := maxL) (ret := ret) ho hl hin hse hcode hy hK (by rw [hT]; exact hcB) hoB hclB hg (hsize.trans hml.symm) (argsL := As) (rest := rest) (fun sig h => hn.trans (hlen sig h)) hstack hW (by rw [hb]; exact hdg)
    (fun vm₁ hW₁ => ⟨hf.1, hf.2, hPc (T.setVm vm₁) hT hW₁⟩) with ⟨v, vm₁, ⟨U', l2, c2, s2⟩, hW₁, X', ⟨g', mk, t, L, e1, e2, hq, h1, hL, h2, h3⟩, st⟩ | ⟨q, vm₁, ⟨U', l2, c2, s2⟩, hW₁, X', ⟨g', mk, t, L, E, ce, e1, e2, hq, hce, hcv, hcl, h1, hL, h2, h3⟩, st⟩
  · dsimp only [Pt.U, Pt.locs, Pt.cells, Pt.slots] at X' e1 e2 h1 h2 h3 st
    subst h1; subst h2; subst h3
    exact Or.inl ⟨v, (T.setVm vm₁).calling g' mk (Value.ref b :: As).toArray, t, U', L, hT, X', hL, e1, e2, hq, st⟩
  · dsimp only [Pt.U, Pt.locs, Pt.cells, Pt.slots] at X' e1 e2 h1 h2 h3 st hcl
    subst h1; subst h2; subst h3
    exact Or.inr ⟨q, (T.setVm vm₁).calling g' mk (Value.ref b :: As).toArray, t, U', L, E, ce, hT, X', hL, e1, e2, hq, hce, hcv, vx_cls hW₁ hcl, st⟩
theorem vx_runS (S : CallFix p m c cc nL s args Ts own) (hM : vx_Met l y ws rm Pc Qc XC mc ms free) (cw : CallB R s args own index y bytes maxL ret ws rm mc ms n ∧ (Cond.static y).before args s = true) (hp : PreS s H Pc As)
    (hg : g.method = m) (hn : As.length = n) (hsize : g.locals.size = nL) (hstack : g.stack = As.reverse ++ rest) (hW : 2 * g.monitorRoom + (rest.map fun v => v.category).sum ≤ 8) (hdg : decode cc g.pc = .ok (.invokestatic index, 3)) (hf : cells + mc ≤ R.cells ∧ slots + ms ≤ R.slots) :
    vx_Run p l e R s m args below meth c H locs cells slots mc ms g rest (Qc As.toArray) XC free := by
  have hK : vx_Back l R p e below s args y 3 8 (PreOf R mc ms Pc) (PostOf Qc mc ms free) (vx_Post XC mc ms free) := vx_callBack cw.1 hM hp.1
  obtain ⟨⟨-, -, -, -, -, -, hcode, hini, hy, hlen, hl⟩, hstt⟩ := cw
  obtain ⟨hx, hb, hml, ho, -⟩ := S
  intro T hT X
  rcases vx_callS X hx (bytes := bytes) (maxL := maxL) (ret := ret) ho hl hstt hini hcode hy hK hg (hsize.trans hml.symm) (argsL := As) (rest := rest) (fun sig h => hn.trans (hlen sig h)) hstack hW (by rw [hb]; exact hdg)
    (fun vm₁ hW₁ => ⟨hf.1, hf.2, hp.2 (T.setVm vm₁) hT hW₁⟩) with ⟨v, vm₁, ⟨U', l2, c2, s2⟩, hW₁, X', ⟨g', mk, t, L, e1, e2, hq, h1, hL, h2, h3⟩, st⟩ | ⟨q, vm₁, ⟨U', l2, c2, s2⟩, hW₁, X', ⟨g', mk, t, L, E, ce, e1, e2, hq, hce, hcv, hcl, h1, hL, h2, h3⟩, st⟩
  · dsimp only [Pt.U, Pt.locs, Pt.cells, Pt.slots] at X' e1 e2 h1 h2 h3 st
    subst h1; subst h2; subst h3
    exact Or.inl ⟨v, (T.setVm vm₁).calling g' mk As.toArray, t, U', L, hT, X', hL, e1, e2, hq, st⟩
  · dsimp only [Pt.U, Pt.locs, Pt.cells, Pt.slots] at X' e1 e2 h1 h2 h3 st hcl
    subst h1; subst h2; subst h3
    exact Or.inr ⟨q, (T.setVm vm₁).calling g' mk As.toArray, t, U', L, E, ce, hT, X', hL, e1, e2, hq, hce, hcv, vx_cls hW₁ hcl, st⟩
end Runs
section Rows
variable {p : Program} {l : Launch} {e : Env} {R : Room} {s : State} {m : MethodId} {args : Array Value} {below : List Frame} {meth : Method} {c : Code} {H : Heap} {locs : List Loc} {cells slots : Nat} {Q : State → Prop}
variable {mc ms : Nat} {free : Addr → Prop} {A0 A1 : Nat → Prop} {H0 : Heap} {a : Array Value} {pc : Nat} {ls : Array Slot} {st0 rest : List Value}
theorem vx_keep {st₀ t T' : State} {L : List Loc} (h0 : st₀.heap = H) (e1 : T'.heap = t.heap) (hS : va_S A0 H0 H locs) (hA : ∀ q, q < H.size → A1 q → A0 q) (hf : ∀ q, free q → A0 q) (hL : ∀ q ∈ L, free q.base) (hF : va_F A1 st₀ t) :
    H.size ≤ T'.heap.size ∧ (∀ q : Nat, q < H.size → ¬ A1 q → T'.heap[q]? = H[q]?) ∧ va_S A0 H0 T'.heap (locs ++ L) := by
  obtain ⟨hz, hk⟩ := hF
  rw [h0] at hz hk
  exact ⟨by rw [e1]; exact hz, fun q h1 h2 => by rw [e1]; exact hk q h1 h2,
    ⟨Nat.le_trans hS.1 (by rw [e1]; exact hz), fun q h1 h2 => by rw [e1, hk q (Nat.lt_of_lt_of_le h1 hS.1) (fun z => h2 (hA q (Nat.lt_of_lt_of_le h1 hS.1) z))]; exact hS.2.1 q h1 h2, fun q hq => by
      rcases List.mem_append.mp hq with h | h
      · exact hS.2.2 q h
      · exact hf _ (hL q h)⟩⟩
theorem vx_calli {S SX : Type} {post : Int32 → S → Prop} {px : SX → Prop} {B : S → State → Prop} {BX : String → SX → State → Prop} {AX : Nat → Prop} (hr : vx_Run p l e R s m args below meth c H locs cells slots mc ms (F0 m pc ls st0) rest (va_Qi post B A1 a) (vx_X px BX AX) free) (hS : va_S A0 H0 H locs) (hA : ∀ q, q < H.size → A1 q → A0 q) (hf : ∀ q, free q → A0 q) (hAX : ∀ q, q < H.size → AX q → A0 q)
    (kx : ∀ (E : String) (ce : Cell) (q9 : Addr) (u : SX) (t : State) (H1 : Heap) (locs1 : List Loc), t.heap = H1 → s.vm.Alike t.vm → px u → BX E u t → H.size ≤ H1.size → (∀ q : Nat, q < H.size → ¬ AX q → H1[q]? = H[q]?) → va_S A0 H0 H1 locs1 → H1[q9]? = some ce → ce.vm = .none → s.vm.findClass E = some ce.cls → vx_W p l e R s m args below meth c H1 locs1 (cells + mc) (slots + ms) Q (F0 m pc ls rest) q9)
    (kk : ∀ (r : Int32) (u : S) (t : State) (H1 : Heap) (locs1 : List Loc), t.heap = H1 → s.vm.Alike t.vm → post r u → B u t → H.size ≤ H1.size → (∀ q : Nat, q < H.size → ¬ A1 q → H1[q]? = H[q]?) → va_S A0 H0 H1 locs1 → W p l e R s m args below meth c H1 locs1 (cells + mc) (slots + ms) Q (F0 m (pc + 3) ls (.int r :: rest))) : W p l e R s m args below meth c H locs cells slots Q (F0 m pc ls st0) := by
  intro T hT X
  rcases hr T hT X with ⟨v, st₀, t, T', L, h0, X', hL, e1, e2, ⟨⟨r, u, hv, hp, hb⟩, hF⟩, st⟩ | ⟨q, st₀, t, T', L, E, ce, h0, X', hL, e1, e2, ⟨u, hp, hb, hF⟩, hce, hcv, hcl, st⟩
  · cases hv
    obtain ⟨k1, k2, k3⟩ := vx_keep h0 e1 hS hA hf hL hF
    obtain ⟨t2, a1, b1⟩ := kk r u t T'.heap (locs ++ L) e1.symm (by rw [← e2]; exact X'.warmed.alike) hp hb k1 k2 k3 T' rfl X'
    exact ⟨t2, st t2 a1, b1⟩
  · obtain ⟨k1, k2, k3⟩ := vx_keep h0 e1 hS hAX hf hL hF
    obtain ⟨t2, a1, b1⟩ := kx E ce q u t T'.heap (locs ++ L) e1.symm (by rw [← e2]; exact X'.warmed.alike) hp hb k1 k2 k3 (by rw [e1]; exact hce) hcv hcl T' rfl X'
    exact ⟨t2, st.trans a1, b1⟩
theorem vx_calll {S SX : Type} {post : Int64 → S → Prop} {px : SX → Prop} {B : S → State → Prop} {BX : String → SX → State → Prop} {AX : Nat → Prop} (hr : vx_Run p l e R s m args below meth c H locs cells slots mc ms (F0 m pc ls st0) rest (va_Ql post B A1 a) (vx_X px BX AX) free) (hS : va_S A0 H0 H locs) (hA : ∀ q, q < H.size → A1 q → A0 q) (hf : ∀ q, free q → A0 q) (hAX : ∀ q, q < H.size → AX q → A0 q)
    (kx : ∀ (E : String) (ce : Cell) (q9 : Addr) (u : SX) (t : State) (H1 : Heap) (locs1 : List Loc), t.heap = H1 → s.vm.Alike t.vm → px u → BX E u t → H.size ≤ H1.size → (∀ q : Nat, q < H.size → ¬ AX q → H1[q]? = H[q]?) → va_S A0 H0 H1 locs1 → H1[q9]? = some ce → ce.vm = .none → s.vm.findClass E = some ce.cls → vx_W p l e R s m args below meth c H1 locs1 (cells + mc) (slots + ms) Q (F0 m pc ls rest) q9)
    (kk : ∀ (r : Int64) (u : S) (t : State) (H1 : Heap) (locs1 : List Loc), t.heap = H1 → s.vm.Alike t.vm → post r u → B u t → H.size ≤ H1.size → (∀ q : Nat, q < H.size → ¬ A1 q → H1[q]? = H[q]?) → va_S A0 H0 H1 locs1 → W p l e R s m args below meth c H1 locs1 (cells + mc) (slots + ms) Q (F0 m (pc + 3) ls (.long r :: rest))) : W p l e R s m args below meth c H locs cells slots Q (F0 m pc ls st0) := by
  intro T hT X
  rcases hr T hT X with ⟨v, st₀, t, T', L, h0, X', hL, e1, e2, ⟨⟨r, u, hv, hp, hb⟩, hF⟩, st⟩ | ⟨q, st₀, t, T', L, E, ce, h0, X', hL, e1, e2, ⟨u, hp, hb, hF⟩, hce, hcv, hcl, st⟩
  · cases hv
    obtain ⟨k1, k2, k3⟩ := vx_keep h0 e1 hS hA hf hL hF
    obtain ⟨t2, a1, b1⟩ := kk r u t T'.heap (locs ++ L) e1.symm (by rw [← e2]; exact X'.warmed.alike) hp hb k1 k2 k3 T' rfl X'
    exact ⟨t2, st t2 a1, b1⟩
  · obtain ⟨k1, k2, k3⟩ := vx_keep h0 e1 hS hAX hf hL hF
    obtain ⟨t2, a1, b1⟩ := kx E ce q u t T'.heap (locs ++ L) e1.symm (by rw [← e2]; exact X'.warmed.alike) hp hb k1 k2 k3 (by rw [e1]; exact hce) hcv hcl T' rfl X'
    exact ⟨t2, st.trans a1, b1⟩
theorem vx_callv {S SX : Type} {post : S → Prop} {px : SX → Prop} {B : S → State → Prop} {BX : String → SX → State → Prop} {AX : Nat → Prop} (hr : vx_Run p l e R s m args below meth c H locs cells slots mc ms (F0 m pc ls st0) rest (va_Qv post B A1 a) (vx_X px BX AX) free) (hS : va_S A0 H0 H locs) (hA : ∀ q, q < H.size → A1 q → A0 q) (hf : ∀ q, free q → A0 q) (hAX : ∀ q, q < H.size → AX q → A0 q)
    (kx : ∀ (E : String) (ce : Cell) (q9 : Addr) (u : SX) (t : State) (H1 : Heap) (locs1 : List Loc), t.heap = H1 → s.vm.Alike t.vm → px u → BX E u t → H.size ≤ H1.size → (∀ q : Nat, q < H.size → ¬ AX q → H1[q]? = H[q]?) → va_S A0 H0 H1 locs1 → H1[q9]? = some ce → ce.vm = .none → s.vm.findClass E = some ce.cls → vx_W p l e R s m args below meth c H1 locs1 (cells + mc) (slots + ms) Q (F0 m pc ls rest) q9)
    (kk : ∀ (u : S) (t : State) (H1 : Heap) (locs1 : List Loc), t.heap = H1 → s.vm.Alike t.vm → post u → B u t → H.size ≤ H1.size → (∀ q : Nat, q < H.size → ¬ A1 q → H1[q]? = H[q]?) → va_S A0 H0 H1 locs1 → W p l e R s m args below meth c H1 locs1 (cells + mc) (slots + ms) Q (F0 m (pc + 3) ls (rest))) : W p l e R s m args below meth c H locs cells slots Q (F0 m pc ls st0) := by
  intro T hT X
  rcases hr T hT X with ⟨v, st₀, t, T', L, h0, X', hL, e1, e2, ⟨⟨u, hv, hp, hb⟩, hF⟩, st⟩ | ⟨q, st₀, t, T', L, E, ce, h0, X', hL, e1, e2, ⟨u, hp, hb, hF⟩, hce, hcv, hcl, st⟩
  · cases hv
    obtain ⟨k1, k2, k3⟩ := vx_keep h0 e1 hS hA hf hL hF
    obtain ⟨t2, a1, b1⟩ := kk u t T'.heap (locs ++ L) e1.symm (by rw [← e2]; exact X'.warmed.alike) hp hb k1 k2 k3 T' rfl X'
    exact ⟨t2, st t2 a1, b1⟩
  · obtain ⟨k1, k2, k3⟩ := vx_keep h0 e1 hS hAX hf hL hF
    obtain ⟨t2, a1, b1⟩ := kx E ce q u t T'.heap (locs ++ L) e1.symm (by rw [← e2]; exact X'.warmed.alike) hp hb k1 k2 k3 (by rw [e1]; exact hce) hcv hcl T' rfl X'
    exact ⟨t2, st.trans a1, b1⟩
end Rows
section Ends
variable {p : Program} {l : Launch} {e : Env} {R : Room} {s : State} {m : MethodId} {args : Array Value} {below : List Frame} {meth : Method} {c : Code} {H : Heap} {locs : List Loc} {cells slots : Nat} {Q : State → Prop}
variable {mc ms : Nat} {free : Addr → Prop} {A0 A1 : Nat → Prop} {H0 : Heap} {a : Array Value} {ls : Array Slot} {st0 rest : List Value}
variable {Qc : Array Value → State → Outcome → State → Prop} {XC : String → State → State → Prop}
/-- what a body that may throw owes at its end -/
def vx_MQ (below : List Frame) (Qc : Array Value → State → Outcome → State → Prop) (XC : String → State → State → Prop) (a : Array Value) (s : State) (mc ms : Nat) (free : Addr → Prop) : State → Prop := fun t =>
  ∃ o, t.status = .running ∧ Ended t below o ∧ vx_Q Qc XC mc ms free a s o t
theorem vx_ret {g : JFrame} {mc ms : Nat} (k : W p l e R s m args below meth c H locs cells slots (MQ below Qc args s mc ms free) g) : W p l e R s m args below meth c H locs cells slots (vx_MQ below Qc XC args s mc ms free) g := by
  intro T hT X
  obtain ⟨t, a1, o, b1, b2, b3, b4⟩ := k T hT X
  exact ⟨t, a1, o, b1, b2, Or.inl ⟨b3, b4⟩⟩
/-- not caught here: it goes on to the caller -/
theorem vx_widen {g : JFrame} {q : Addr} {k n : Nat} (h1 : cells ≤ k) (h2 : slots ≤ n) (kk : vx_W p l e R s m args below meth c H locs k n Q g q) : vx_W p l e R s m args below meth c H locs cells slots Q g q := fun T hT X => kk T hT (stand_widen X h1 h2)
theorem vx_out {pc : Nat} {E : String} {ce : Cell} {q : Addr} {mc ms : Nat} (hout : ∀ x ∈ c.exceptionTable.toList, covers x pc = false) (hlocks : meth.locks = false) (hcell : H[q]? = some ce) (hv : ce.vm = .none) (hcl : s.vm.findClass E = some ce.cls)
    (hx : ∀ t : State, t.heap = H → s.vm.Alike t.vm → XC E s t) (hf : ∀ z ∈ locs, free z.base) (hc : cells ≤ mc) (hs : slots ≤ ms) :
    vx_W p l e R s m args below meth c H locs cells slots (vx_MQ below Qc XC args s mc ms free) (F0 m pc ls rest) q := by
  intro T hT X
  obtain ⟨st1, hrun, hend, hW, hsm⟩ := X.leaveThrown q (g := F0 m pc ls rest) rfl rfl rfl hout hlocks
  have hcell9 : (T.setFrames (.throwing q :: below)).heap[q]? = some ce := by
    show T.heap[q]? = some ce
    rw [hT]; exact hcell
  exact ⟨_, st1, .threw q, hrun, hend, Or.inr ⟨q, rfl, E, ce, locs, hx _ hT hW.alike, hcell9, hv, hcl, hW, hsm.mono hc hs, hf⟩⟩
theorem vx_frame {U : State} {k n : Nat} (h : s.sameButNew ({ U with vm := s.vm } : State) locs k n) : s.heap.size ≤ U.heap.size ∧ ∀ q : Nat, q < s.heap.size → (∀ z ∈ locs, z.base ≠ q) → U.heap[q]? = s.heap[q]? := by
  obtain ⟨-, h2, -, -, -, h6⟩ := h
  refine ⟨h2, fun q hq hz => ?_⟩
  obtain ⟨c9, e1, e2, e3, e4⟩ := h6 q _ (Array.getElem?_eq_getElem hq)
  have hs : c9.slots = (s.heap[q]).slots := Array.ext_getElem? fun i => e4 i fun hm => hz _ hm rfl
  have h9 : c9 = s.heap[q] := by
    rw [hs] at e2
    exact e2
  have e5 : U.heap[q]? = some c9 := e1
  rw [e5, h9, Array.getElem?_eq_getElem hq]
/-- the words of a throw but the four that speak of the heap -/
def vx_no (w : Cond) : Bool := decide (w ≠ .isRef (.static Bundle.tN "UNASSIGNED_STACK" Bundle.steD)) && decide (w ≠ .isRef (.static Bundle.tN "SUPPRESSED_SENTINEL" Bundle.listD)) && decide (w ≠ .laysStatic Bundle.tN "UNASSIGNED_STACK" Bundle.steD) && decide (w ≠ .laysStatic Bundle.tN "SUPPRESSED_SENTINEL" Bundle.listD)
def vx_at0 (own : String) (ic : Nat) (X : String) (names : List String) : List Cond := (Bundle.ownAtoms0 own ic X names).filter vx_no
def vx_atS (own : String) (ic : Nat) (X : String) (names : List String) : List Cond := (Bundle.ownAtoms own ic X names).filter vx_no
/-- a word that the tables alone decide, or a good one -/
def vx_ot (w : Cond) : Bool := w.onTables || goodWord w
theorem vx_ot_at {args a' : Array Value} {s U : State} {w : Cond} (hW : s.WarmedH U.vm) (hvm : s.vm = U.vm) (hg : vx_ot w = true) (h : w.before args s = true) : w.before a' U = true := by
  simp only [vx_ot, Bool.or_eq_true] at hg
  rcases hg with hg | hg
  · exact va_tabs hg hvm h
  · exact word_at hW (good_of_word hg) h
/-- a list's words: the good ones out of the method's own list, the others by premises of their own -/
theorem vx_hat {args : Array Value} {s : State} {L B : List Cond} (h1 : ∀ w ∈ L.filter goodWord, w.before args s = true) (h2 : ∀ w ∈ L.filter (fun w => !goodWord w), w ∈ B) (h3 : ∀ w ∈ B, w.before args s = true) : ∀ w ∈ L, w.before args s = true := by
  intro w hw
  by_cases g : goodWord w = true
  · exact h1 w (List.mem_filter.mpr ⟨hw, g⟩)
  · refine h3 w (h2 w (List.mem_filter.mpr ⟨hw, ?_⟩))
    show (!goodWord w) = true
    cases hgw : goodWord w
    · rfl
    · exact absurd hgw g
theorem vx_c {args : Array Value} {s : State} {w : Cond} {B : List Cond} (h : w.before args s = true) (t : ∀ w ∈ B, w.before args s = true) : ∀ w' ∈ w :: B, w'.before args s = true := fun w' h' => (List.mem_cons.mp h').elim (fun e => by rw [e]; exact h) (t w')
theorem vx_n {args : Array Value} {s : State} : ∀ w ∈ ([] : List Cond), w.before args s = true := fun _ h => nomatch h
theorem vx_own {args : Array Value} {s : State} {L : List Cond} (h1 : ∀ w ∈ L.filter vx_no, w.before args s = true)
    (hU : (Cond.isRef (.static Bundle.tN "UNASSIGNED_STACK" Bundle.steD)).before args s = true) (hN : (Cond.isRef (.static Bundle.tN "SUPPRESSED_SENTINEL" Bundle.listD)).before args s = true)
    (lU : (Cond.laysStatic Bundle.tN "UNASSIGNED_STACK" Bundle.steD).before args s = true) (lN : (Cond.laysStatic Bundle.tN "SUPPRESSED_SENTINEL" Bundle.listD).before args s = true) : ∀ w ∈ L, w.before args s = true := by
  intro w hw
  by_cases e1 : w = .isRef (.static Bundle.tN "UNASSIGNED_STACK" Bundle.steD)
  · rw [e1]; exact hU
  · by_cases e2 : w = .isRef (.static Bundle.tN "SUPPRESSED_SENTINEL" Bundle.listD)
    · rw [e2]; exact hN
    · by_cases e3 : w = .laysStatic Bundle.tN "UNASSIGNED_STACK" Bundle.steD
      · rw [e3]; exact lU
      · by_cases e4 : w = .laysStatic Bundle.tN "SUPPRESSED_SENTINEL" Bundle.listD
        · rw [e4]; exact lN
        · exact h1 w (List.mem_filter.mpr ⟨hw, by unfold vx_no; rw [decide_eq_true e1, decide_eq_true e2, decide_eq_true e3, decide_eq_true e4]; rfl⟩)
/-- where a static field lies, its class's statics cell in H -/
def vx_L (C n d : String) (A : Nat → Prop) (U : State) (H : Heap) : Prop := ∃ (c : ClassId) (k : Class) (i : Nat) (f : Field) (a : Nat) (cell : Cell), U.vm.findClass C = some c ∧ U.fieldFound? C n d = some (c, k, i, f) ∧ f.isStatic = true ∧ k.statics = some a ∧ H[a]? = some cell ∧ cell.vm.isStatics = true ∧ cell.cls = c ∧ f.slot < cell.slots.size ∧ k.staticTypes[f.slot]? = some f.type ∧ ¬ A a
theorem vx_L.moved {C n d : String} {A : Nat → Prop} {u U : State} {H : Heap} (hvm : u.vm.Alike U.vm) (h : vx_L C n d A u H) : vx_L C n d A U H := by
  obtain ⟨c, k, i, f, a, cell, h1, h2, h3, h4, h5, h6, h7, h8, h9, h10⟩ := h
  obtain ⟨k', hi', he⟩ := State.fieldFound?_setVm hvm h2
  exact ⟨c, k', i, f, a, cell, by rw [hvm.findClass]; exact h1, hi', h3, by rw [he]; exact h4, h5, h6, h7, h8, by rw [he]; exact h9, h10⟩
theorem vx_L.kept {C n d : String} {A : Nat → Prop} {U : State} {H H1 : Heap} (h : vx_L C n d A U H) (hq : ∀ a : Nat, a < H.size → ¬ A a → H1[a]? = H[a]?) : vx_L C n d A U H1 := by
  obtain ⟨c, k, i, f, a, cell, h1, h2, h3, h4, h5, h6, h7, h8, h9, h10⟩ := h
  exact ⟨c, k, i, f, a, cell, h1, h2, h3, h4, by rw [hq a (Array.getElem?_eq_some_iff.mp h5).1 h10]; exact h5, h6, h7, h8, h9, h10⟩
theorem vx_L.narrow {C n d : String} {A B : Nat → Prop} {U : State} {H : Heap} (h : vx_L C n d A U H) (hAB : ∀ q, B q → A q) : vx_L C n d B U H := by
  obtain ⟨c, k, i, f, a, cell, h1, h2, h3, h4, h5, h6, h7, h8, h9, h10⟩ := h
  exact ⟨c, k, i, f, a, cell, h1, h2, h3, h4, h5, h6, h7, h8, h9, fun z => h10 (hAB _ z)⟩
theorem vx_L.word {C n d : String} {A : Nat → Prop} {s : State} {args : Array Value} (h : vx_L C n d A s s.heap) : (Cond.laysStatic C n d).before args s = true := by
  obtain ⟨c, k, i, f, a, cell, h1, h2, h3, h4, h5, h6, h7, h8, h9, -⟩ := h
  show (Cond.laysStatic C n d).holds args s none s [] = true
  exact Cond.laysStatic_of h1 h2 h3 h4 h5 h6 h7 h8 h9
/-- .. and what it holds: null or some reference -/
def vx_Zq (C n d : String) (A : Nat → Prop) (U : State) (H : Heap) : Prop := va_Zq C n d A U H ∧ vx_L C n d A U H
theorem vx_Zq.moved {C n d : String} {A : Nat → Prop} {u U : State} {H : Heap} (hvm : u.vm.Alike U.vm) (h : vx_Zq C n d A u H) : vx_Zq C n d A U H := ⟨va_Zq.moved hvm h.1, vx_L.moved hvm h.2⟩
theorem vx_Zq.kept {C n d : String} {A : Nat → Prop} {U : State} {H H1 : Heap} (h : vx_Zq C n d A U H) (hq : ∀ a : Nat, a < H.size → ¬ A a → H1[a]? = H[a]?) : vx_Zq C n d A U H1 := ⟨va_Zq.kept h.1 hq, vx_L.kept h.2 hq⟩
theorem vx_Zq.narrow {C n d : String} {A B : Nat → Prop} {U : State} {H : Heap} (h : vx_Zq C n d A U H) (hAB : ∀ q, B q → A q) : vx_Zq C n d B U H := ⟨va_Zq.narrow h.1 hAB, vx_L.narrow h.2 hAB⟩
theorem vx_Zqof {args : Array Value} {s : State} {C n d : String} {A : Nat → Prop} (hl : (Cond.laysStatic C n d).before args s = true) (hini : (Cond.initialized C).before args s = true) (h : (Cond.isRef (.static C n d)).before args s = true) (hA : ∀ a : Nat, a < s.heap.size → ¬ A a) : vx_Zq C n d A s s.heap := by
  refine ⟨va_Zqof hl hini h hA, ?_⟩
  obtain ⟨c, k, i, f, a, cell, h1, h2, h3, h4, h5, h6, h7, h8, h9⟩ := Cond.laysStatic_spec hl
  exact ⟨c, k, i, f, a, cell, h1, h2, h3, h4, h5, h6, h7, h8, h9, hA a (Array.getElem?_eq_some_iff.mp h5).1⟩
theorem vx_isRef {C n d : String} {v : Value} {A : Nat → Prop} {s : State} {args : Array Value} (h : va_Z C n d v A s s.heap) (hv : v.isRef = true) : (Cond.isRef (.static C n d)).before args s = true := by
  obtain ⟨cf, kf, fi, f, a, cell, h1, h2, h3, h4, h5, h6, h7, -⟩ := h
  have he : (Term.static C n d).eval args s none [] s = some v := by
    simp [Term.eval, State.fieldNamed?, h1, h2, h4, h5, h6, h7]
  simp only [Cond.before, Cond.holds, Cond.value, he]
  cases v <;> simp_all [Value.isRef]
theorem vx_isRefq {C n d : String} {A : Nat → Prop} {s : State} {args : Array Value} (h : va_Zq C n d A s s.heap) : (Cond.isRef (.static C n d)).before args s = true := by
  rcases h with h | ⟨t, h⟩
  · exact vx_isRef h rfl
  · exact vx_isRef h rfl
/-- the same frame, seen from here: as if the method were called anew in this heap -/
theorem vx_rebase {T : State} (X : Stand p l e R s m args below meth c T locs cells slots) {R' : Room} (hf : R'.frames ≤ R.frames) (hl : R'.locals ≤ R.locals) (hc : cells + R'.cells ≤ R.cells) (hs : slots + R'.slots ≤ R.slots) :
    Stand p l e R' ((T.setVm s.vm).setFrames (.invoking m args :: below)) m args below meth c T [] 0 0 := by
  have htop : (T.setVm s.vm).topJava?.isSome := X.here.top
  have hF : ((T.setVm s.vm).setFrames (.invoking m args :: below)).frames = .invoking m args :: below := State.frames_setFrames _ (State.cur_lt_of_top htop)
  obtain ⟨g₀, hg0⟩ := Option.isSome_iff_exists.mp htop
  obtain ⟨r, hr⟩ := State.topJava?_eq_some.mp hg0
  have hl9 : e.platform.stackLimits (T.setVm s.vm).me = e.platform.stackLimits s.me := X.limits
  have hb9 : (T.setVm s.vm).me.stackBytes = s.me.stackBytes := X.bytes
  refine ⟨X.admits, X.cas, X.clock, hF, ?_, X.hears, X.method, X.code, X.here, X.tail, X.warmed, ?_, ?_, ?_⟩
  · have h := X.room
    have hU : ((T.setVm s.vm).setFrames (.invoking m args :: below)).localsInUse = s.localsInUse := by
      rw [State.localsInUse_invoking hF (meth := meth) (c := c) X.method X.code, State.localsInUse_invoking X.frames X.method X.code]
    simp only [State.hasRoom, Bool.and_eq_true, decide_eq_true_eq] at h ⊢
    obtain ⟨⟨⟨⟨h1, h2, h3, h4, h5, h6⟩, h7⟩, h8⟩, h9⟩ := h
    rw [X.frames, List.length_cons] at h2 h3
    have q1 := X.heapSize
    have q2 := X.used
    simp only [hF, hU, List.length_cons, State.stackLimits_setFrames, State.stackBytes_setFrames, hl9, hb9]
    refine ⟨⟨⟨⟨by omega, by omega, by omega, by omega, by omega, h6⟩, ?_⟩, ?_⟩, X.book⟩
    · show T.heap.size + R'.cells ≤ e.platform.maxCells
      omega
    · show T.slotsUsed + R'.slots ≤ e.platform.maxSlots
      omega
  · rw [State.stackLimits_setFrames]; rfl
  · rw [State.stackBytes_setFrames]; rfl
  · refine ⟨?_, Nat.le_refl _, Nat.le_refl _, ?_, ?_, fun a c9 h9 => ⟨c9, h9, rfl, rfl, fun _ _ => rfl⟩⟩
    · obtain ⟨t, ht, -⟩ := State.frames_cons hr
      show T.setVm s.vm = { ((T.setVm s.vm).setFrames (.invoking m args :: below)).setFrames (T.setVm s.vm).frames with heap := T.heap, slotsUsed := T.slotsUsed }
      rw [State.setFrames_setFrames, State.setFrames_self ht]
      rfl
    · show T.slotsUsed = T.slotsUsed + ((T.heap.toList.drop T.heap.size).map (·.slots.size)).sum
      rw [List.drop_eq_nil_of_le (Nat.le_of_eq Array.length_toList)]
      rfl
    · show ((T.heap.toList.drop T.heap.size).map (·.slots.size)).sum ≤ 0
      rw [List.drop_eq_nil_of_le (Nat.le_of_eq Array.length_toList)]
      exact Nat.le_refl _
/-- 'throw new E()': new; dup; invokespecial; athrow -/
theorem vx_throw0 {cc : ByteArray} {pc : Nat} (hexec : p.tables.exec = Jvm.exec) (hb : c.code = cc) (hl : l.stackTraces = false) {own cls : String} {names : List String} {ik ic mc ms : Nat} {A : Nat → Prop}
    (hown : s.vm.findClass own = some m.cls) (hcls : Bundle.fit cls = true) (hnames : ∀ n ∈ names, Bundle.fit n = true)
    (hk : (Cond.classLink own ik cls).before args s = true) (hini : (Cond.initialized cls).before args s = true) (hat : ∀ w ∈ vx_at0 own ic cls names, w.before args s = true)
    (hgood : ∀ w ∈ Cond.classLink own ik cls :: Cond.initialized cls :: vx_at0 own ic cls names, vx_ot w = true)
    (hU : vx_Zq Bundle.tN "UNASSIGNED_STACK" Bundle.steD A s s.heap) (hN : vx_Zq Bundle.tN "SUPPRESSED_SENTINEL" Bundle.listD A s s.heap) (hS : va_S A s.heap H locs) (hsize : ls.size = c.maxLocals)
    (d0 : decode cc pc = .ok (.new ik, 3)) (d3 : decode cc (pc + 3) = .ok (.dup, 1)) (d4 : decode cc (pc + 4) = .ok (.invokespecial ic, 3)) (d7 : decode cc (pc + 7) = .ok (.athrow, 1))
    (hout : ∀ x ∈ c.exceptionTable.toList, covers x (pc + 7) = false)
    (hRframes : names.length + 3 < R.frames) (hRlocals : (rest.map fun v => v.category).sum + (13 * (names.length + 1) + 42) ≤ R.locals) (hRcells : cells + 1 ≤ R.cells) (hRslots : slots + 6 ≤ R.slots) (hlocks : meth.locks = false)
    (hx : ∀ t : State, s.vm.Alike t.vm → H.size ≤ t.heap.size → (∀ q : Nat, q < H.size → t.heap[q]? = H[q]?) → XC cls s t)
    (hf : ∀ z ∈ locs, free z.base) (hc : cells + 1 ≤ mc) (hs : slots + 6 ≤ ms) :
    W p l e R s m args below meth c H locs cells slots (vx_MQ below Qc XC args s mc ms free) (F0 m pc ls rest) := by
  intro T hT X
  have htr : e.platform.stackTraces = false := (show e.platform.stackTraces = l.stackTraces by rw [X.admits.platform]).trans hl
  have Y := vx_rebase X (R' := { frames := R.frames, locals := R.locals, cells := 1, slots := 6 }) (Nat.le_refl _) (Nat.le_refl _) hRcells hRslots
  obtain ⟨s', hA⟩ : ∃ z, z = (T.setVm s.vm).setFrames (.invoking m args :: below) := ⟨_, rfl⟩
  rw [← hA] at Y
  have hvm : s'.vm = s.vm := by rw [hA]; rfl
  have hhp : s'.heap = H := by rw [hA]; exact hT
  have hW0 : s.WarmedH s'.vm := by rw [hvm]; exact State.WarmedH.refl s
  have hat' : ∀ w ∈ vx_at0 own ic cls names, w.before args s' = true := fun w hw => vx_ot_at hW0 hvm.symm (hgood w (List.mem_cons_of_mem _ (List.mem_cons_of_mem _ hw))) (hat w hw)
  have hk' : (Cond.classLink own ik cls).before args s' = true := vx_ot_at hW0 hvm.symm (hgood _ List.mem_cons_self) hk
  have hini' : (Cond.initialized cls).before args s' = true := vx_ot_at hW0 hvm.symm (hgood _ (List.mem_cons_of_mem _ List.mem_cons_self)) hini
  have hU' : vx_Zq Bundle.tN "UNASSIGNED_STACK" Bundle.steD A s' s'.heap := by rw [hhp]; exact vx_Zq.moved hW0.alike (hU.kept hS.2.1)
  have hN' : vx_Zq Bundle.tN "SUPPRESSED_SENTINEL" Bundle.listD A s' s'.heap := by rw [hhp]; exact vx_Zq.moved hW0.alike (hN.kept hS.2.1)
  have h : ∀ w ∈ Bundle.ownAtoms0 own ic cls names, w.before args s' = true := vx_own hat' (vx_isRefq hU'.1) (vx_isRefq hN'.1) hU'.2.word hN'.2.word
  have hown' : s'.vm.findClass own = some m.cls := by rw [hvm]; exact hown
  have hins : (Cond.instantiable cls 6).before args s' = true := h _ (by simp [Bundle.ownAtoms0])
  obtain ⟨vm₁, cX, kX, hfX, hkX, -, -, X₁, st1⟩ := Y.newCold hexec (own := own) (C := cls) (index := ik) (n := 6) hown' hk' hins hini'
    (g := F0 m pc ls rest) rfl (by rw [hb]; exact d0) (Nat.le_refl _) (Nat.le_refl _)
  generalize hT1 : (T.setVm vm₁).pushCell { cls := cX, slots := kX.instanceTypes.map defaultValue, vm := .none } = T1 at X₁ st1
  have hcat : (Value.ref T.heap.size).category = 1 := rfl
  have hcellA : T1.heap[T.heap.size]? = some (freshCell cX kX) := by rw [← hT1]; exact State.heap_pushCell_size _ _
  have d3' : decode c.code (pc + 3) = .ok (.dup, 1) := by rw [hb]; exact d3
  obtain ⟨U, hsteps, hrun, hend, hW, hsame, ce, hce, hO⟩ := X₁.ctorThrow0 hexec htr (own := own) (cls := cls) (names := names) (ic := ic) hown' hcls hnames h (fun x hx => nomatch hx) hfX hkX hcellA (by rw [hhp, hT]; exact Nat.le_refl _)
    (g := { method := m, pc := pc + 4, locals := ls, stack := .ref T.heap.size :: .ref T.heap.size :: rest, locked := none }) rfl hsize rfl rfl (rest := rest) rfl
    (by rw [hb]; exact d4) (by rw [hb]; exact d7) hout hRframes (by simp only [List.map_cons, List.sum_cons, hcat]; omega) hlocks
  obtain ⟨f1, f2⟩ := vx_frame hsame
  rw [hhp] at f1 f2
  have hWs : s.WarmedH U.vm := State.WarmedH.trans hW0 hW
  have hcl : s.vm.findClass cls = some ce.cls := by
    have h9 := hO.cls
    rw [hvm] at h9
    exact h9
  have hall : s.sameButNew ({ U with vm := s.vm } : State) locs mc ms := by
    subst hA
    obtain ⟨e1, e2⟩ := hsame
    rw [State.setFrames_setFrames] at e1
    have h2 : (T.setVm s.vm).sameButNew ({ U with vm := s.vm } : State) [] (0 + 1) (0 + 6) := ⟨e1, e2⟩
    have h3 := X.same.trans h2
    rw [List.append_nil] at h3
    exact h3.mono hc hs
  refine ⟨U, ?_, .threw T.heap.size, hrun, hend, Or.inr ⟨T.heap.size, rfl, cls, ce, locs, hx U hWs.alike f1 (fun q hq => f2 q hq (fun z hz => nomatch hz)), hce, hO.vm, hcl, hWs, hall, hf⟩⟩
  refine st1 _ ?_
  show Steps p.tables e below (T1.setTop { method := m, pc := pc + 3, locals := ls, stack := .ref T.heap.size :: rest, locked := none }) _
  jvm_step X₁.here [X₁.here.top, hexec, d3', Value.category]
  exact hsteps
end Ends
section Bodies
variable {l : Launch}
theorem vx_ofW {y : MethodName} {ws ws' : List Cond} {rm : Room} {Pc : Array Value → State → Prop} {Qc : Array Value → State → Outcome → State → Prop} {XC : String → State → State → Prop} {mc ms : Nat} {free : Addr → Prop} {cc : ByteArray} {maxL : Nat} {ret : Option FieldType}
    (hy : plainName y.cls = true) (hw : ws = Cond.code y cc maxL ret :: ws')
    (body : ∀ p e s m args below meth c s₁, BodyLoose p l y (headSpec ws rm) cc maxL ret e s m args below meth c s₁ → c.maxLocals = maxL → (∀ x ∈ c.exceptionTable.toList, False) → Pc args s →
      W p l e (headSpec ws rm).room s m args below meth c s.heap [] 0 0 (vx_MQ below Qc XC args s mc ms free) (entryFrame m args maxL)) : vx_Met l y ws rm Pc Qc XC mc ms free := by
  refine MetFree.of_bodyS (code := cc) (maxLocals := maxL) (ret := ret) hy ?_ ?_
  · intro args s m h hn
    obtain ⟨meth, c, h1, h2, h3, h4, h5, h6, -, -⟩ := Cond.code_spec hn (atoms_spec (ws := ws) h _ (by rw [hw]; exact List.mem_cons_self))
    exact ⟨meth, c, h1, h2, h3, h4, h5, h6⟩
  · intro p e s m args below meth c s₁ B hml hP _
    have hh0 : s₁.heap = s.heap := by rw [B.state]; rfl
    have ht : ∀ x ∈ c.exceptionTable.toList, False := by
      obtain ⟨meth9, c9, h1, h2, -, -, -, -, h7, -⟩ := Cond.code_spec B.named (atoms_spec (ws := ws) B.pre _ (by rw [hw]; exact List.mem_cons_self))
      cases Option.some.inj (h1.symm.trans B.method)
      cases Option.some.inj (h2.symm.trans (Stand.of_body B).code)
      intro x hx
      rw [Array.isEmpty_iff.mp h7] at hx
      cases hx
    obtain ⟨t, a1, o, b1, b2, b3⟩ := body p e s m args below meth c s₁ B hml ht hP s₁ hh0 (Stand.of_body B)
    exact ⟨t, o, a1, b1, b2, b3⟩
/-- the table of a body with handlers -/
theorem vx_table {p : Program} {x y : MethodName} {S : Spec} {cc bytes : ByteArray} {maxL maxL' : Nat} {ret ret' : Option FieldType} {e : Env} {s s₁ : State} {m : MethodId} {args : Array Value} {below : List Frame} {meth : Method} {c : Code} {hh : List (Nat × Nat × Nat × Nat)}
    (B : BodyLoose p l y S cc maxL ret e s m args below meth c s₁) (h : (Cond.codeWith y bytes maxL' ret' hh).before args s = true) : c.exceptionTable.toList = tableOf hh := by
  obtain ⟨m9, meth9, c9, hn9, h1, h2, -, -, h6, -⟩ := Cond.codeWith_spec h
  cases Option.some.inj (hn9.symm.trans B.named)
  cases Option.some.inj (h1.symm.trans B.method)
  cases Option.some.inj (h2.symm.trans (Stand.of_body B).code)
  rw [← h6, table_eq]
end Bodies
end VXA
/-! ===== END ===== -/
end
section
def RX0 : String := "GraphCourier$LongList"
def TX0 : u_T := fun k => match k with
  | 0 => ("GraphCourier$LongList", "content", "[J", true)
  | _ => ("GraphCourier$LongList", "length", "I", false)
def tyX0 : Nat → FieldType := fun k => match k with
  | 0 => .array .long
  | _ => .int
abbrev wsX00 : List Cond := u_ws RX0 TX0 2
theorem nmX0 : ∀ a, a < 2 → ∀ b, b < 2 → a ≠ b → (TX0 a).2.1 ≠ (TX0 b).2.1 := by decide +kernel
theorem tyX0_ok : ∀ k, k < 2 → parseFieldDescriptor (TX0 k).2.2.1 = some (tyX0 k) := by decide +kernel
abbrev cX0_init : ByteArray := prog_2_method_1_code
def yX0_init : MethodName := ⟨RX0, "<init>", "(I)V"⟩
abbrev cX0_empty : ByteArray := prog_2_method_2_code
def yX0_empty : MethodName := ⟨RX0, "empty", "()V"⟩
abbrev cX0_isFull : ByteArray := prog_2_method_3_code
def yX0_isFull : MethodName := ⟨RX0, "isFull", "()Z"⟩
abbrev cX0_add : ByteArray := prog_2_method_4_code
def yX0_add : MethodName := ⟨RX0, "add", "(J)V"⟩
abbrev cX0_replace : ByteArray := prog_2_method_5_code
def yX0_replace : MethodName := ⟨RX0, "replace", "(IJ)V"⟩
abbrev cX0_at : ByteArray := prog_2_method_6_code
def yX0_at : MethodName := ⟨RX0, "at", "(I)J"⟩
abbrev cX0_placeOf : ByteArray := prog_2_method_7_code
def yX0_placeOf : MethodName := ⟨RX0, "placeOf", "(J)I"⟩
abbrev cX0_has : ByteArray := prog_2_method_8_code
def yX0_has : MethodName := ⟨RX0, "has", "(J)Z"⟩
abbrev cX0_isLike : ByteArray := prog_2_method_9_code
def yX0_isLike : MethodName := ⟨RX0, "isLike", "(LGraphCourier$LongList;)Z"⟩
def RX1 : String := "GraphCourier$Matcher"
def TX1 : u_T := fun k => match k with
  | 0 => ("GraphCourier$Matcher", "store", "LGraphCourier$Store;", true)
  | 1 => ("GraphCourier$Matcher", "rightOfLeft", "[I", true)
  | 2 => ("GraphCourier$Matcher", "leftOfRight", "[I", true)
  | 3 => ("GraphCourier$Matcher", "metLeft", "[I", true)
  | _ => ("GraphCourier$Matcher", "metCount", "I", false)
def tyX1 : Nat → FieldType := fun k => match k with
  | 0 => .object "GraphCourier$Store"
  | 1 => .array .int
  | 2 => .array .int
  | 3 => .array .int
  | _ => .int
abbrev wsX10 : List Cond := u_ws RX1 TX1 5
theorem nmX1 : ∀ a, a < 5 → ∀ b, b < 5 → a ≠ b → (TX1 a).2.1 ≠ (TX1 b).2.1 := by decide +kernel
theorem tyX1_ok : ∀ k, k < 5 → parseFieldDescriptor (TX1 k).2.2.1 = some (tyX1 k) := by decide +kernel
abbrev cX1_init : ByteArray := prog_3_method_1_code
def yX1_init : MethodName := ⟨RX1, "<init>", "(LGraphCourier$Store;)V"⟩
abbrev cX1_start : ByteArray := prog_3_method_2_code
def yX1_start : MethodName := ⟨RX1, "start", "()V"⟩
abbrev cX1_matches : ByteArray := prog_3_method_3_code
def yX1_matches : MethodName := ⟨RX1, "matches", "(JJ)Z"⟩
abbrev cX1_meet : ByteArray := prog_3_method_4_code
def yX1_meet : MethodName := ⟨RX1, "meet", "(JJ)Z"⟩
abbrev cX1_becomePartners : ByteArray := prog_3_method_5_code
def yX1_becomePartners : MethodName := ⟨RX1, "becomePartners", "(II)Z"⟩
abbrev cX1_matchThings : ByteArray := prog_3_method_6_code
def yX1_matchThings : MethodName := ⟨RX1, "matchThings", "(LGraphCourier$Thing;LGraphCourier$Thing;)Z"⟩
abbrev cX1_meetAll : ByteArray := prog_3_method_7_code
def yX1_meetAll : MethodName := ⟨RX1, "meetAll", "(LGraphCourier$LongList;LGraphCourier$LongList;)Z"⟩
def RX2 : String := "GraphCourier$Reader"
def TX2 : u_T := fun k => match k with
  | 0 => ("GraphCourier$Reader", "store", "LGraphCourier$Store;", true)
  | 1 => ("GraphCourier$Reader", "row", "LGraphCourier$Row;", true)
  | 2 => ("GraphCourier$Reader", "allowed", "LGraphCourier$LongList;", true)
  | 3 => ("GraphCourier$Reader", "texts", "LGraphCourier$LongList;", true)
  | 4 => ("GraphCourier$Reader", "things", "LGraphCourier$LongList;", true)
  | 5 => ("GraphCourier$Reader", "traits", "LGraphCourier$LongList;", true)
  | 6 => ("GraphCourier$Reader", "wideCount", "I", false)
  | 7 => ("GraphCourier$Reader", "traitsCount", "I", false)
  | 8 => ("GraphCourier$Reader", "thingCount", "I", false)
  | 9 => ("GraphCourier$Reader", "at", "I", false)
  | _ => ("GraphCourier$Reader", "faultPlace", "I", false)
def tyX2 : Nat → FieldType := fun k => match k with
  | 0 => .object "GraphCourier$Store"
  | 1 => .object "GraphCourier$Row"
  | 2 => .object "GraphCourier$LongList"
  | 3 => .object "GraphCourier$LongList"
  | 4 => .object "GraphCourier$LongList"
  | 5 => .object "GraphCourier$LongList"
  | 6 => .int
  | 7 => .int
  | 8 => .int
  | 9 => .int
  | _ => .int
abbrev wsX20 : List Cond := u_ws RX2 TX2 11
theorem nmX2 : ∀ a, a < 11 → ∀ b, b < 11 → a ≠ b → (TX2 a).2.1 ≠ (TX2 b).2.1 := by decide +kernel
theorem tyX2_ok : ∀ k, k < 11 → parseFieldDescriptor (TX2 k).2.2.1 = some (tyX2 k) := by decide +kernel
abbrev cX2_init : ByteArray := prog_4_method_1_code
def yX2_init : MethodName := ⟨RX2, "<init>", "(LGraphCourier$Store;LGraphCourier$Row;LGraphCourier$LongList;)V"⟩
abbrev cX2_start : ByteArray := prog_4_method_2_code
def yX2_start : MethodName := ⟨RX2, "start", "()V"⟩
abbrev cX2_keep : ByteArray := prog_4_method_3_code
def yX2_keep : MethodName := ⟨RX2, "keep", "()V"⟩
abbrev cX2_readValue : ByteArray := prog_4_method_4_code
def yX2_readValue : MethodName := ⟨RX2, "readValue", "(I)J"⟩
abbrev cX2_readInteger : ByteArray := prog_4_method_5_code
def yX2_readInteger : MethodName := ⟨RX2, "readInteger", "()J"⟩
abbrev cX2_readWide : ByteArray := prog_4_method_6_code
def yX2_readWide : MethodName := ⟨RX2, "readWide", "(I)J"⟩
abbrev cX2_readThing : ByteArray := prog_4_method_7_code
def yX2_readThing : MethodName := ⟨RX2, "readThing", "(III)J"⟩
abbrev cX2_knownThing : ByteArray := prog_4_method_8_code
def yX2_knownThing : MethodName := ⟨RX2, "knownThing", "(III)J"⟩
abbrev cX2_readDate : ByteArray := prog_4_method_9_code
def yX2_readDate : MethodName := ⟨RX2, "readDate", "(LGraphCourier$Thing;II)V"⟩
abbrev cX2_readBytes : ByteArray := prog_4_method_10_code
def yX2_readBytes : MethodName := ⟨RX2, "readBytes", "(LGraphCourier$Thing;II)V"⟩
abbrev cX2_readArray : ByteArray := prog_4_method_11_code
def yX2_readArray : MethodName := ⟨RX2, "readArray", "(LGraphCourier$Thing;III)V"⟩
abbrev cX2_readObject : ByteArray := prog_4_method_12_code
def yX2_readObject : MethodName := ⟨RX2, "readObject", "(LGraphCourier$Thing;III)V"⟩
abbrev cX2_readTraits : ByteArray := prog_4_method_13_code
def yX2_readTraits : MethodName := ⟨RX2, "readTraits", "(II)I"⟩
abbrev cX2_knownTraits : ByteArray := prog_4_method_14_code
def yX2_knownTraits : MethodName := ⟨RX2, "knownTraits", "(II)I"⟩
abbrev cX2_keepDraft : ByteArray := prog_4_method_15_code
def yX2_keepDraft : MethodName := ⟨RX2, "keepDraft", "(I)I"⟩
abbrev cX2_readPairs : ByteArray := prog_4_method_16_code
def yX2_readPairs : MethodName := ⟨RX2, "readPairs", "(LGraphCourier$Thing;I)V"⟩
abbrev cX2_readString : ByteArray := prog_4_method_17_code
def yX2_readString : MethodName := ⟨RX2, "readString", "()J"⟩
abbrev cX2_knownText : ByteArray := prog_4_method_18_code
def yX2_knownText : MethodName := ⟨RX2, "knownText", "(II)J"⟩
abbrev cX2_readEight : ByteArray := prog_4_method_19_code
def yX2_readEight : MethodName := ⟨RX2, "readEight", "()J"⟩
abbrev cX2_readNumber : ByteArray := prog_4_method_20_code
def yX2_readNumber : MethodName := ⟨RX2, "readNumber", "()I"⟩
abbrev cX2_readByte : ByteArray := prog_4_method_21_code
def yX2_readByte : MethodName := ⟨RX2, "readByte", "()I"⟩
abbrev cX2_stopAt : ByteArray := prog_4_method_22_code
def yX2_stopAt : MethodName := ⟨RX2, "stopAt", "(I)V"⟩
def RX3 : String := "GraphCourier$Row"
def TX3 : u_T := fun k => match k with
  | 0 => ("GraphCourier$Row", "content", "[I", true)
  | _ => ("GraphCourier$Row", "length", "I", false)
def tyX3 : Nat → FieldType := fun k => match k with
  | 0 => .array .int
  | _ => .int
abbrev wsX30 : List Cond := u_ws RX3 TX3 2
theorem nmX3 : ∀ a, a < 2 → ∀ b, b < 2 → a ≠ b → (TX3 a).2.1 ≠ (TX3 b).2.1 := by decide +kernel
theorem tyX3_ok : ∀ k, k < 2 → parseFieldDescriptor (TX3 k).2.2.1 = some (tyX3 k) := by decide +kernel
abbrev cX3_init : ByteArray := prog_5_method_1_code
def yX3_init : MethodName := ⟨RX3, "<init>", "()V"⟩
abbrev cX3_become : ByteArray := prog_5_method_2_code
def yX3_become : MethodName := ⟨RX3, "become", "([II)V"⟩
def RX4 : String := "GraphCourier$Store"
def TX4 : u_T := fun k => match k with
  | 0 => ("GraphCourier$Store", "wides", "[J", true)
  | 1 => ("GraphCourier$Store", "traits", "[LGraphCourier$Traits;", true)
  | 2 => ("GraphCourier$Store", "things", "[LGraphCourier$Thing;", true)
  | 3 => ("GraphCourier$Store", "wideCount", "I", false)
  | 4 => ("GraphCourier$Store", "traitsCount", "I", false)
  | _ => ("GraphCourier$Store", "thingCount", "I", false)
def tyX4 : Nat → FieldType := fun k => match k with
  | 0 => .array .long
  | 1 => .array (.object "GraphCourier$Traits")
  | 2 => .array (.object "GraphCourier$Thing")
  | 3 => .int
  | 4 => .int
  | _ => .int
abbrev wsX40 : List Cond := u_ws RX4 TX4 6
theorem nmX4 : ∀ a, a < 6 → ∀ b, b < 6 → a ≠ b → (TX4 a).2.1 ≠ (TX4 b).2.1 := by decide +kernel
theorem tyX4_ok : ∀ k, k < 6 → parseFieldDescriptor (TX4 k).2.2.1 = some (tyX4 k) := by decide +kernel
abbrev cX4_init : ByteArray := prog_6_method_1_code
def yX4_init : MethodName := ⟨RX4, "<init>", "()V"⟩
abbrev cX4_keepOnly : ByteArray := prog_6_method_2_code
def yX4_keepOnly : MethodName := ⟨RX4, "keepOnly", "(III)V"⟩
abbrev cX4_isThing : ByteArray := prog_6_method_3_code
def yX4_isThing : MethodName := ⟨RX4, "isThing", "(J)Z"⟩
abbrev cX4_isValue : ByteArray := prog_6_method_4_code
def yX4_isValue : MethodName := ⟨RX4, "isValue", "(J)Z"⟩
abbrev cX4_makeThing : ByteArray := prog_6_method_5_code
def yX4_makeThing : MethodName := ⟨RX4, "makeThing", "(I)I"⟩
abbrev cX4_giveTraits : ByteArray := prog_6_method_6_code
def yX4_giveTraits : MethodName := ⟨RX4, "giveTraits", "(LGraphCourier$Thing;I)V"⟩
abbrev cX4_placeOfDraft : ByteArray := prog_6_method_7_code
def yX4_placeOfDraft : MethodName := ⟨RX4, "placeOfDraft", "(I)I"⟩
abbrev cX4_canHavePairs : ByteArray := prog_6_method_8_code
def yX4_canHavePairs : MethodName := ⟨RX4, "canHavePairs", "(LGraphCourier$Thing;)Z"⟩
abbrev cX4_isMember : ByteArray := prog_6_method_9_code
def yX4_isMember : MethodName := ⟨RX4, "isMember", "(LGraphCourier$Thing;J)Z"⟩
def RX5 : String := "GraphCourier$Thing"
def TX5 : u_T := fun k => match k with
  | 0 => ("GraphCourier$Thing", "items", "LGraphCourier$LongList;", true)
  | 1 => ("GraphCourier$Thing", "keys", "LGraphCourier$LongList;", true)
  | 2 => ("GraphCourier$Thing", "values", "LGraphCourier$LongList;", true)
  | 3 => ("GraphCourier$Thing", "kind", "I", false)
  | 4 => ("GraphCourier$Thing", "traits", "I", false)
  | _ => ("GraphCourier$Thing", "dateBits", "J", false)
def tyX5 : Nat → FieldType := fun k => match k with
  | 0 => .object "GraphCourier$LongList"
  | 1 => .object "GraphCourier$LongList"
  | 2 => .object "GraphCourier$LongList"
  | 3 => .int
  | 4 => .int
  | _ => .long
abbrev wsX50 : List Cond := u_ws RX5 TX5 6
theorem nmX5 : ∀ a, a < 6 → ∀ b, b < 6 → a ≠ b → (TX5 a).2.1 ≠ (TX5 b).2.1 := by decide +kernel
theorem tyX5_ok : ∀ k, k < 6 → parseFieldDescriptor (TX5 k).2.2.1 = some (tyX5 k) := by decide +kernel
abbrev cX5_init : ByteArray := prog_7_method_1_code
def yX5_init : MethodName := ⟨RX5, "<init>", "()V"⟩
abbrev cX5_become : ByteArray := prog_7_method_2_code
def yX5_become : MethodName := ⟨RX5, "become", "(I)V"⟩
def RX6 : String := "GraphCourier$Traits"
def TX6 : u_T := fun k => match k with
  | 0 => ("GraphCourier$Traits", "members", "LGraphCourier$LongList;", true)
  | 1 => ("GraphCourier$Traits", "name", "J", false)
  | _ => ("GraphCourier$Traits", "dynamic", "Z", false)
def tyX6 : Nat → FieldType := fun k => match k with
  | 0 => .object "GraphCourier$LongList"
  | 1 => .long
  | _ => .boolean
abbrev wsX60 : List Cond := u_ws RX6 TX6 3
theorem nmX6 : ∀ a, a < 3 → ∀ b, b < 3 → a ≠ b → (TX6 a).2.1 ≠ (TX6 b).2.1 := by decide +kernel
theorem tyX6_ok : ∀ k, k < 3 → parseFieldDescriptor (TX6 k).2.2.1 = some (tyX6 k) := by decide +kernel
abbrev cX6_init : ByteArray := prog_8_method_1_code
def yX6_init : MethodName := ⟨RX6, "<init>", "()V"⟩
abbrev cX6_become : ByteArray := prog_8_method_2_code
def yX6_become : MethodName := ⟨RX6, "become", "(JZ)V"⟩
abbrev cX6_isAlike : ByteArray := prog_8_method_3_code
def yX6_isAlike : MethodName := ⟨RX6, "isAlike", "(LGraphCourier$Traits;)Z"⟩
def RX7 : String := "GraphCourier$Writer"
def TX7 : u_T := fun k => match k with
  | 0 => ("GraphCourier$Writer", "store", "LGraphCourier$Store;", true)
  | 1 => ("GraphCourier$Writer", "texts", "LGraphCourier$LongList;", true)
  | 2 => ("GraphCourier$Writer", "things", "LGraphCourier$LongList;", true)
  | 3 => ("GraphCourier$Writer", "traits", "LGraphCourier$LongList;", true)
  | 4 => ("GraphCourier$Writer", "written", "[I", true)
  | _ => ("GraphCourier$Writer", "length", "I", false)
def tyX7 : Nat → FieldType := fun k => match k with
  | 0 => .object "GraphCourier$Store"
  | 1 => .object "GraphCourier$LongList"
  | 2 => .object "GraphCourier$LongList"
  | 3 => .object "GraphCourier$LongList"
  | 4 => .array .int
  | _ => .int
abbrev wsX70 : List Cond := u_ws RX7 TX7 6
theorem nmX7 : ∀ a, a < 6 → ∀ b, b < 6 → a ≠ b → (TX7 a).2.1 ≠ (TX7 b).2.1 := by decide +kernel
theorem tyX7_ok : ∀ k, k < 6 → parseFieldDescriptor (TX7 k).2.2.1 = some (tyX7 k) := by decide +kernel
abbrev cX7_init : ByteArray := prog_9_method_1_code
def yX7_init : MethodName := ⟨RX7, "<init>", "(LGraphCourier$Store;)V"⟩
abbrev cX7_start : ByteArray := prog_9_method_2_code
def yX7_start : MethodName := ⟨RX7, "start", "()V"⟩
abbrev cX7_writeValue : ByteArray := prog_9_method_3_code
def yX7_writeValue : MethodName := ⟨RX7, "writeValue", "(JI)V"⟩
abbrev cX7_writeThing : ByteArray := prog_9_method_4_code
def yX7_writeThing : MethodName := ⟨RX7, "writeThing", "(II)V"⟩
abbrev cX7_writeBytes : ByteArray := prog_9_method_5_code
def yX7_writeBytes : MethodName := ⟨RX7, "writeBytes", "(LGraphCourier$LongList;)V"⟩
abbrev cX7_writeObject : ByteArray := prog_9_method_6_code
def yX7_writeObject : MethodName := ⟨RX7, "writeObject", "(LGraphCourier$Thing;I)V"⟩
abbrev cX7_writeTraits : ByteArray := prog_9_method_7_code
def yX7_writeTraits : MethodName := ⟨RX7, "writeTraits", "(I)V"⟩
abbrev cX7_writeItems : ByteArray := prog_9_method_8_code
def yX7_writeItems : MethodName := ⟨RX7, "writeItems", "(LGraphCourier$Thing;I)V"⟩
abbrev cX7_writePairs : ByteArray := prog_9_method_9_code
def yX7_writePairs : MethodName := ⟨RX7, "writePairs", "(LGraphCourier$Thing;I)V"⟩
abbrev cX7_writeString : ByteArray := prog_9_method_10_code
def yX7_writeString : MethodName := ⟨RX7, "writeString", "(J)V"⟩
abbrev cX7_writeEight : ByteArray := prog_9_method_11_code
def yX7_writeEight : MethodName := ⟨RX7, "writeEight", "(J)V"⟩
abbrev cX7_writeNumber : ByteArray := prog_9_method_12_code
def yX7_writeNumber : MethodName := ⟨RX7, "writeNumber", "(I)V"⟩
abbrev cX7_writeByte : ByteArray := prog_9_method_13_code
def yX7_writeByte : MethodName := ⟨RX7, "writeByte", "(I)V"⟩
def RX8 : String := "GraphCourier"
def TX8 : u_T := fun k => match k with
  | 0 => ("GraphCourier", "store", "LGraphCourier$Store;", true)
  | 1 => ("GraphCourier", "row", "LGraphCourier$Row;", true)
  | 2 => ("GraphCourier", "allowed", "LGraphCourier$LongList;", true)
  | 3 => ("GraphCourier", "writer", "LGraphCourier$Writer;", true)
  | 4 => ("GraphCourier", "reader", "LGraphCourier$Reader;", true)
  | _ => ("GraphCourier", "matcher", "LGraphCourier$Matcher;", true)
def tyX8 : Nat → FieldType := fun k => match k with
  | 0 => .object "GraphCourier$Store"
  | 1 => .object "GraphCourier$Row"
  | 2 => .object "GraphCourier$LongList"
  | 3 => .object "GraphCourier$Writer"
  | 4 => .object "GraphCourier$Reader"
  | _ => .object "GraphCourier$Matcher"
abbrev wsX80 : List Cond := u_ws RX8 TX8 6
theorem nmX8 : ∀ a, a < 6 → ∀ b, b < 6 → a ≠ b → (TX8 a).2.1 ≠ (TX8 b).2.1 := by decide +kernel
theorem tyX8_ok : ∀ k, k < 6 → parseFieldDescriptor (TX8 k).2.2.1 = some (tyX8 k) := by decide +kernel
abbrev cX8_init : ByteArray := prog_1_method_1_code
def yX8_init : MethodName := ⟨RX8, "<init>", "()V"⟩
abbrev cX8_wide : ByteArray := prog_1_method_2_code
def yX8_wide : MethodName := ⟨RX8, "wide", "(J)J"⟩
abbrev cX8_date : ByteArray := prog_1_method_3_code
def yX8_date : MethodName := ⟨RX8, "date", "(J)J"⟩
abbrev cX8_bytes : ByteArray := prog_1_method_4_code
def yX8_bytes : MethodName := ⟨RX8, "bytes", "(JI)J"⟩
abbrev cX8_array : ByteArray := prog_1_method_5_code
def yX8_array : MethodName := ⟨RX8, "array", "()J"⟩
abbrev cX8_traits : ByteArray := prog_1_method_6_code
def yX8_traits : MethodName := ⟨RX8, "traits", "(JZJJJ)I"⟩
abbrev cX8_object : ByteArray := prog_1_method_7_code
def yX8_object : MethodName := ⟨RX8, "object", "(I)J"⟩
abbrev cX8_append : ByteArray := prog_1_method_8_code
def yX8_append : MethodName := ⟨RX8, "append", "(IJ)I"⟩
abbrev cX8_set : ByteArray := prog_1_method_9_code
def yX8_set : MethodName := ⟨RX8, "set", "(IIJ)V"⟩
abbrev cX8_put : ByteArray := prog_1_method_10_code
def yX8_put : MethodName := ⟨RX8, "put", "(IJJ)I"⟩
abbrev cX8_allow : ByteArray := prog_1_method_11_code
def yX8_allow : MethodName := ⟨RX8, "allow", "(J)Z"⟩
abbrev cX8_encode : ByteArray := prog_1_method_12_code
def yX8_encode : MethodName := ⟨RX8, "encode", "(J)I"⟩
abbrev cX8_decode : ByteArray := prog_1_method_13_code
def yX8_decode : MethodName := ⟨RX8, "decode", "()J"⟩
abbrev cX8_fault : ByteArray := prog_1_method_14_code
def yX8_fault : MethodName := ⟨RX8, "fault", "()I"⟩
abbrev cX8_size : ByteArray := prog_1_method_15_code
def yX8_size : MethodName := ⟨RX8, "size", "()I"⟩
abbrev cX8_byteAt : ByteArray := prog_1_method_16_code
def yX8_byteAt : MethodName := ⟨RX8, "byteAt", "(I)I"⟩
abbrev cX8_alter : ByteArray := prog_1_method_17_code
def yX8_alter : MethodName := ⟨RX8, "alter", "(II)Z"⟩
abbrev cX8_cut : ByteArray := prog_1_method_18_code
def yX8_cut : MethodName := ⟨RX8, "cut", "(I)Z"⟩
abbrev cX8_things : ByteArray := prog_1_method_19_code
def yX8_things : MethodName := ⟨RX8, "things", "()I"⟩
abbrev cX8_kind : ByteArray := prog_1_method_20_code
def yX8_kind : MethodName := ⟨RX8, "kind", "(I)I"⟩
abbrev cX8_count : ByteArray := prog_1_method_21_code
def yX8_count : MethodName := ⟨RX8, "count", "(I)I"⟩
abbrev cX8_item : ByteArray := prog_1_method_22_code
def yX8_item : MethodName := ⟨RX8, "item", "(II)J"⟩
abbrev cX8_pairs : ByteArray := prog_1_method_23_code
def yX8_pairs : MethodName := ⟨RX8, "pairs", "(I)I"⟩
abbrev cX8_pair : ByteArray := prog_1_method_24_code
def yX8_pair : MethodName := ⟨RX8, "pair", "(IIZ)J"⟩
abbrev cX8_traitsOf : ByteArray := prog_1_method_25_code
def yX8_traitsOf : MethodName := ⟨RX8, "traitsOf", "(I)I"⟩
abbrev cX8_bits : ByteArray := prog_1_method_26_code
def yX8_bits : MethodName := ⟨RX8, "bits", "(I)J"⟩
abbrev cX8_same : ByteArray := prog_1_method_27_code
def yX8_same : MethodName := ⟨RX8, "same", "(JJ)Z"⟩
abbrev cX8_clear : ByteArray := prog_1_method_28_code
def yX8_clear : MethodName := ⟨RX8, "clear", "()V"⟩
abbrev cX8_refuseFortyFirst : ByteArray := prog_1_method_29_code
def yX8_refuseFortyFirst : MethodName := ⟨RX8, "refuseFortyFirst", "()V"⟩
abbrev cX8_hasItem : ByteArray := prog_1_method_30_code
def yX8_hasItem : MethodName := ⟨RX8, "hasItem", "(II)Z"⟩
abbrev cX8_canHaveKey : ByteArray := prog_1_method_31_code
def yX8_canHaveKey : MethodName := ⟨RX8, "canHaveKey", "(IJ)Z"⟩
abbrev cX8_addMember : ByteArray := prog_1_method_32_code
def yX8_addMember : MethodName := ⟨RX8, "addMember", "(LGraphCourier$Traits;J)V"⟩
abbrev cX8_canBeMembers : ByteArray := prog_1_method_33_code
def yX8_canBeMembers : MethodName := ⟨RX8, "canBeMembers", "(JJJ)Z"⟩
abbrev cX8_isText : ByteArray := prog_1_method_34_code
def yX8_isText : MethodName := ⟨RX8, "isText", "(J)Z"⟩
abbrev cX8_textSize : ByteArray := prog_1_method_35_code
def yX8_textSize : MethodName := ⟨RX8, "textSize", "(J)I"⟩
abbrev cX8_valueOf : ByteArray := prog_1_method_36_code
def yX8_valueOf : MethodName := ⟨RX8, "valueOf", "(IJ)J"⟩
abbrev cX8_kindOf : ByteArray := prog_1_method_37_code
def yX8_kindOf : MethodName := ⟨RX8, "kindOf", "(J)I"⟩
abbrev cX8_aboveKind : ByteArray := prog_1_method_38_code
def yX8_aboveKind : MethodName := ⟨RX8, "aboveKind", "(J)J"⟩
def RX9 : String := "GraphCourierModel"
def TX9 : u_T := fun k => match k with
  | 0 => ("GraphCourierModel", "thrown", "I", false)
  | 1 => ("GraphCourierModel", "wides", "I", false)
  | 2 => ("GraphCourierModel", "wideBits", "[J", true)
  | 3 => ("GraphCourierModel", "traitCount", "I", false)
  | 4 => ("GraphCourierModel", "names", "[J", true)
  | 5 => ("GraphCourierModel", "dynamics", "[Z", true)
  | 6 => ("GraphCourierModel", "memberCounts", "[I", true)
  | 7 => ("GraphCourierModel", "members", "[J", true)
  | 8 => ("GraphCourierModel", "things", "I", false)
  | 9 => ("GraphCourierModel", "kinds", "[I", true)
  | 10 => ("GraphCourierModel", "contents", "[J", true)
  | 11 => ("GraphCourierModel", "counts", "[I", true)
  | 12 => ("GraphCourierModel", "traitsAt", "[I", true)
  | 13 => ("GraphCourierModel", "items", "[J", true)
  | 14 => ("GraphCourierModel", "pairCounts", "[I", true)
  | 15 => ("GraphCourierModel", "keys", "[J", true)
  | 16 => ("GraphCourierModel", "worths", "[J", true)
  | 17 => ("GraphCourierModel", "allowed", "I", false)
  | 18 => ("GraphCourierModel", "allowedNames", "[J", true)
  | 19 => ("GraphCourierModel", "size", "I", false)
  | 20 => ("GraphCourierModel", "row", "[I", true)
  | 21 => ("GraphCourierModel", "fault", "I", false)
  | 22 => ("GraphCourierModel", "textCount", "I", false)
  | 23 => ("GraphCourierModel", "texts", "[J", true)
  | 24 => ("GraphCourierModel", "thingCount", "I", false)
  | 25 => ("GraphCourierModel", "thingList", "[I", true)
  | 26 => ("GraphCourierModel", "traitListCount", "I", false)
  | 27 => ("GraphCourierModel", "traitList", "[I", true)
  | 28 => ("GraphCourierModel", "open", "I", false)
  | 29 => ("GraphCourierModel", "openThing", "[I", true)
  | 30 => ("GraphCourierModel", "openItems", "[I", true)
  | 31 => ("GraphCourierModel", "openPairs", "[I", true)
  | 32 => ("GraphCourierModel", "openOver", "[Z", true)
  | 33 => ("GraphCourierModel", "made", "I", false)
  | 34 => ("GraphCourierModel", "out", "[I", true)
  | 35 => ("GraphCourierModel", "bad", "Z", false)
  | 36 => ("GraphCourierModel", "at", "I", false)
  | 37 => ("GraphCourierModel", "stop", "I", false)
  | 38 => ("GraphCourierModel", "gotten", "J", false)
  | 39 => ("GraphCourierModel", "partnerOf", "[I", true)
  | 40 => ("GraphCourierModel", "partnerBack", "[I", true)
  | 41 => ("GraphCourierModel", "queued", "I", false)
  | _ => ("GraphCourierModel", "queue", "[I", true)
def tyX9 : Nat → FieldType := fun k => match k with
  | 0 => .int
  | 1 => .int
  | 2 => .array .long
  | 3 => .int
  | 4 => .array .long
  | 5 => .array .boolean
  | 6 => .array .int
  | 7 => .array .long
  | 8 => .int
  | 9 => .array .int
  | 10 => .array .long
  | 11 => .array .int
  | 12 => .array .int
  | 13 => .array .long
  | 14 => .array .int
  | 15 => .array .long
  | 16 => .array .long
  | 17 => .int
  | 18 => .array .long
  | 19 => .int
  | 20 => .array .int
  | 21 => .int
  | 22 => .int
  | 23 => .array .long
  | 24 => .int
  | 25 => .array .int
  | 26 => .int
  | 27 => .array .int
  | 28 => .int
  | 29 => .array .int
  | 30 => .array .int
  | 31 => .array .int
  | 32 => .array .boolean
  | 33 => .int
  | 34 => .array .int
  | 35 => .boolean
  | 36 => .int
  | 37 => .int
  | 38 => .long
  | 39 => .array .int
  | 40 => .array .int
  | 41 => .int
  | _ => .array .int
abbrev wsX90 : List Cond := u_ws RX9 TX9 43
theorem nmX9 : ∀ a, a < 43 → ∀ b, b < 43 → a ≠ b → (TX9 a).2.1 ≠ (TX9 b).2.1 := by decide +kernel
theorem tyX9_ok : ∀ k, k < 43 → parseFieldDescriptor (TX9 k).2.2.1 = some (tyX9 k) := by decide +kernel
abbrev cX9_init : ByteArray := prog_11_method_1_code
def yX9_init : MethodName := ⟨RX9, "<init>", "()V"⟩
abbrev cX9_thrown : ByteArray := prog_11_method_2_code
def yX9_thrown : MethodName := ⟨RX9, "thrown", "()I"⟩
abbrev cX9_letters : ByteArray := prog_11_method_3_code
def yX9_letters : MethodName := ⟨RX9, "letters", "(J)I"⟩
abbrev cX9_isText : ByteArray := prog_11_method_4_code
def yX9_isText : MethodName := ⟨RX9, "isText", "(J)Z"⟩
abbrev cX9_isValue : ByteArray := prog_11_method_5_code
def yX9_isValue : MethodName := ⟨RX9, "isValue", "(J)Z"⟩
abbrev cX9_isThing : ByteArray := prog_11_method_6_code
def yX9_isThing : MethodName := ⟨RX9, "isThing", "(I)Z"⟩
abbrev cX9_wide : ByteArray := prog_11_method_7_code
def yX9_wide : MethodName := ⟨RX9, "wide", "(J)J"⟩
abbrev cX9_newWide : ByteArray := prog_11_method_8_code
def yX9_newWide : MethodName := ⟨RX9, "newWide", "(J)J"⟩
abbrev cX9_newThing : ByteArray := prog_11_method_9_code
def yX9_newThing : MethodName := ⟨RX9, "newThing", "(IJII)I"⟩
abbrev cX9_valueOf : ByteArray := prog_11_method_10_code
def yX9_valueOf : MethodName := ⟨RX9, "valueOf", "(I)J"⟩
abbrev cX9_date : ByteArray := prog_11_method_11_code
def yX9_date : MethodName := ⟨RX9, "date", "(J)J"⟩
abbrev cX9_bytes : ByteArray := prog_11_method_12_code
def yX9_bytes : MethodName := ⟨RX9, "bytes", "(JI)J"⟩
abbrev cX9_array : ByteArray := prog_11_method_13_code
def yX9_array : MethodName := ⟨RX9, "array", "()J"⟩
abbrev cX9_alike : ByteArray := prog_11_method_14_code
def yX9_alike : MethodName := ⟨RX9, "alike", "(JZIJJJ)I"⟩
abbrev cX9_newTraits : ByteArray := prog_11_method_15_code
def yX9_newTraits : MethodName := ⟨RX9, "newTraits", "(JZIJJJ)I"⟩
abbrev cX9_traits : ByteArray := prog_11_method_16_code
def yX9_traits : MethodName := ⟨RX9, "traits", "(JZJJJ)I"⟩
abbrev cX9_object : ByteArray := prog_11_method_17_code
def yX9_object : MethodName := ⟨RX9, "object", "(I)J"⟩
abbrev cX9_append : ByteArray := prog_11_method_18_code
def yX9_append : MethodName := ⟨RX9, "append", "(IJ)I"⟩
abbrev cX9_hasItems : ByteArray := prog_11_method_19_code
def yX9_hasItems : MethodName := ⟨RX9, "hasItems", "(I)Z"⟩
abbrev cX9_set : ByteArray := prog_11_method_20_code
def yX9_set : MethodName := ⟨RX9, "set", "(IIJ)V"⟩
abbrev cX9_hasPairs : ByteArray := prog_11_method_21_code
def yX9_hasPairs : MethodName := ⟨RX9, "hasPairs", "(I)Z"⟩
abbrev cX9_isMember : ByteArray := prog_11_method_22_code
def yX9_isMember : MethodName := ⟨RX9, "isMember", "(IJ)Z"⟩
abbrev cX9_pairAt : ByteArray := prog_11_method_23_code
def yX9_pairAt : MethodName := ⟨RX9, "pairAt", "(IJ)I"⟩
abbrev cX9_put : ByteArray := prog_11_method_24_code
def yX9_put : MethodName := ⟨RX9, "put", "(IJJ)I"⟩
abbrev cX9_isAllowed : ByteArray := prog_11_method_25_code
def yX9_isAllowed : MethodName := ⟨RX9, "isAllowed", "(J)Z"⟩
abbrev cX9_allow : ByteArray := prog_11_method_26_code
def yX9_allow : MethodName := ⟨RX9, "allow", "(J)Z"⟩
abbrev cX9_emit : ByteArray := prog_11_method_27_code
def yX9_emit : MethodName := ⟨RX9, "emit", "(I)V"⟩
abbrev cX9_emitNumber : ByteArray := prog_11_method_28_code
def yX9_emitNumber : MethodName := ⟨RX9, "emitNumber", "(I)V"⟩
abbrev cX9_emitEight : ByteArray := prog_11_method_29_code
def yX9_emitEight : MethodName := ⟨RX9, "emitEight", "(J)V"⟩
abbrev cX9_emitString : ByteArray := prog_11_method_30_code
def yX9_emitString : MethodName := ⟨RX9, "emitString", "(J)V"⟩
abbrev cX9_push : ByteArray := prog_11_method_31_code
def yX9_push : MethodName := ⟨RX9, "push", "(I)V"⟩
abbrev cX9_emitValue : ByteArray := prog_11_method_32_code
def yX9_emitValue : MethodName := ⟨RX9, "emitValue", "(J)V"⟩
abbrev cX9_emitThing : ByteArray := prog_11_method_33_code
def yX9_emitThing : MethodName := ⟨RX9, "emitThing", "(I)V"⟩
abbrev cX9_emitTraits : ByteArray := prog_11_method_34_code
def yX9_emitTraits : MethodName := ⟨RX9, "emitTraits", "(I)V"⟩
abbrev cX9_goOn : ByteArray := prog_11_method_35_code
def yX9_goOn : MethodName := ⟨RX9, "goOn", "()V"⟩
abbrev cX9_clearLists : ByteArray := prog_11_method_36_code
def yX9_clearLists : MethodName := ⟨RX9, "clearLists", "()V"⟩
abbrev cX9_encode : ByteArray := prog_11_method_37_code
def yX9_encode : MethodName := ⟨RX9, "encode", "(J)I"⟩
abbrev cX9_stopAt : ByteArray := prog_11_method_38_code
def yX9_stopAt : MethodName := ⟨RX9, "stopAt", "(I)V"⟩
abbrev cX9_goes : ByteArray := prog_11_method_39_code
def yX9_goes : MethodName := ⟨RX9, "goes", "()Z"⟩
abbrev cX9_take : ByteArray := prog_11_method_40_code
def yX9_take : MethodName := ⟨RX9, "take", "()I"⟩
abbrev cX9_takeNumber : ByteArray := prog_11_method_41_code
def yX9_takeNumber : MethodName := ⟨RX9, "takeNumber", "()I"⟩
abbrev cX9_takeEight : ByteArray := prog_11_method_42_code
def yX9_takeEight : MethodName := ⟨RX9, "takeEight", "()J"⟩
abbrev cX9_takeString : ByteArray := prog_11_method_43_code
def yX9_takeString : MethodName := ⟨RX9, "takeString", "()J"⟩
abbrev cX9_takeValue : ByteArray := prog_11_method_44_code
def yX9_takeValue : MethodName := ⟨RX9, "takeValue", "()V"⟩
abbrev cX9_takeThing : ByteArray := prog_11_method_45_code
def yX9_takeThing : MethodName := ⟨RX9, "takeThing", "(II)V"⟩
abbrev cX9_takeTraits : ByteArray := prog_11_method_46_code
def yX9_takeTraits : MethodName := ⟨RX9, "takeTraits", "(II)I"⟩
abbrev cX9_give : ByteArray := prog_11_method_47_code
def yX9_give : MethodName := ⟨RX9, "give", "(IZ)V"⟩
abbrev cX9_readOn : ByteArray := prog_11_method_48_code
def yX9_readOn : MethodName := ⟨RX9, "readOn", "()V"⟩
abbrev cX9_decode : ByteArray := prog_11_method_49_code
def yX9_decode : MethodName := ⟨RX9, "decode", "()J"⟩
abbrev cX9_fault : ByteArray := prog_11_method_50_code
def yX9_fault : MethodName := ⟨RX9, "fault", "()I"⟩
abbrev cX9_size : ByteArray := prog_11_method_51_code
def yX9_size : MethodName := ⟨RX9, "size", "()I"⟩
abbrev cX9_byteAt : ByteArray := prog_11_method_52_code
def yX9_byteAt : MethodName := ⟨RX9, "byteAt", "(I)I"⟩
abbrev cX9_alter : ByteArray := prog_11_method_53_code
def yX9_alter : MethodName := ⟨RX9, "alter", "(II)Z"⟩
abbrev cX9_cut : ByteArray := prog_11_method_54_code
def yX9_cut : MethodName := ⟨RX9, "cut", "(I)Z"⟩
abbrev cX9_things : ByteArray := prog_11_method_55_code
def yX9_things : MethodName := ⟨RX9, "things", "()I"⟩
abbrev cX9_kind : ByteArray := prog_11_method_56_code
def yX9_kind : MethodName := ⟨RX9, "kind", "(I)I"⟩
abbrev cX9_count : ByteArray := prog_11_method_57_code
def yX9_count : MethodName := ⟨RX9, "count", "(I)I"⟩
abbrev cX9_item : ByteArray := prog_11_method_58_code
def yX9_item : MethodName := ⟨RX9, "item", "(II)J"⟩
abbrev cX9_pairs : ByteArray := prog_11_method_59_code
def yX9_pairs : MethodName := ⟨RX9, "pairs", "(I)I"⟩
abbrev cX9_pair : ByteArray := prog_11_method_60_code
def yX9_pair : MethodName := ⟨RX9, "pair", "(IIZ)J"⟩
abbrev cX9_traitsOf : ByteArray := prog_11_method_61_code
def yX9_traitsOf : MethodName := ⟨RX9, "traitsOf", "(I)I"⟩
abbrev cX9_bits : ByteArray := prog_11_method_62_code
def yX9_bits : MethodName := ⟨RX9, "bits", "(I)J"⟩
abbrev cX9_areSame : ByteArray := prog_11_method_63_code
def yX9_areSame : MethodName := ⟨RX9, "areSame", "(JJ)Z"⟩
abbrev cX9_areAlike : ByteArray := prog_11_method_64_code
def yX9_areAlike : MethodName := ⟨RX9, "areAlike", "(II)Z"⟩
abbrev cX9_same : ByteArray := prog_11_method_65_code
def yX9_same : MethodName := ⟨RX9, "same", "(JJ)Z"⟩
abbrev cX9_clear : ByteArray := prog_11_method_66_code
def yX9_clear : MethodName := ⟨RX9, "clear", "()V"⟩
def RJ9 : String := "java/lang/Math"
def TJ9 : u_T := fun k => match k with
  | _ => ("", "", "", false)
def tyJ9 : Nat → FieldType := fun k => match k with
  | _ => .int
abbrev wsJ90 : List Cond := u_ws RJ9 TJ9 0
theorem nmJ9 : ∀ a, a < 0 → ∀ b, b < 0 → a ≠ b → (TJ9 a).2.1 ≠ (TJ9 b).2.1 := by decide +kernel
theorem tyJ9_ok : ∀ k, k < 0 → parseFieldDescriptor (TJ9 k).2.2.1 = some (tyJ9 k) := by decide +kernel
abbrev cJ9_max_7cf53 : ByteArray := prog_15_method_65_code
def yJ9_max_7cf53 : MethodName := ⟨RJ9, "max", "(II)I"⟩
def RJ10 : String := "java/lang/System"
def TJ10 : u_T := fun k => match k with
  | _ => ("", "", "", false)
def tyJ10 : Nat → FieldType := fun k => match k with
  | _ => .int
abbrev wsJ100 : List Cond := u_ws RJ10 TJ10 0
theorem nmJ10 : ∀ a, a < 0 → ∀ b, b < 0 → a ≠ b → (TJ10 a).2.1 ≠ (TJ10 b).2.1 := by decide +kernel
theorem tyJ10_ok : ∀ k, k < 0 → parseFieldDescriptor (TJ10 k).2.2.1 = some (tyJ10 k) := by decide +kernel
def RJ7 : String := "java/util/Arrays"
def TJ7 : u_T := fun k => match k with
  | _ => ("", "", "", false)
def tyJ7 : Nat → FieldType := fun k => match k with
  | _ => .int
abbrev wsJ70 : List Cond := u_ws RJ7 TJ7 0
theorem nmJ7 : ∀ a, a < 0 → ∀ b, b < 0 → a ≠ b → (TJ7 a).2.1 ≠ (TJ7 b).2.1 := by decide +kernel
theorem tyJ7_ok : ∀ k, k < 0 → parseFieldDescriptor (TJ7 k).2.2.1 = some (tyJ7 k) := by decide +kernel
abbrev cJ7_fill_53178 : ByteArray := prog_19_method_103_code
def yJ7_fill_53178 : MethodName := ⟨RJ7, "fill", "([II)V"⟩
def RL : String := "GraphCourierLaw"
abbrev cL_wide : ByteArray := method_3_code
def yL_wide : MethodName := ⟨RL, "wide", "(LGraphCourier;J[J)I"⟩
abbrev cL_date : ByteArray := method_4_code
def yL_date : MethodName := ⟨RL, "date", "(LGraphCourier;J[J)I"⟩
abbrev cL_bytes : ByteArray := method_5_code
def yL_bytes : MethodName := ⟨RL, "bytes", "(LGraphCourier;JI[J)I"⟩
abbrev cL_array : ByteArray := method_6_code
def yL_array : MethodName := ⟨RL, "array", "(LGraphCourier;[J)I"⟩
abbrev cL_traits : ByteArray := method_7_code
def yL_traits : MethodName := ⟨RL, "traits", "(LGraphCourier;JZJJJ[J)I"⟩
abbrev cL_object : ByteArray := method_8_code
def yL_object : MethodName := ⟨RL, "object", "(LGraphCourier;I[J)I"⟩
abbrev cL_append : ByteArray := method_9_code
def yL_append : MethodName := ⟨RL, "append", "(LGraphCourier;IJ[J)I"⟩
abbrev cL_set : ByteArray := method_10_code
def yL_set : MethodName := ⟨RL, "set", "(LGraphCourier;IIJ)I"⟩
abbrev cL_put : ByteArray := method_11_code
def yL_put : MethodName := ⟨RL, "put", "(LGraphCourier;IJJ[J)I"⟩
abbrev cL_encode : ByteArray := method_12_code
def yL_encode : MethodName := ⟨RL, "encode", "(LGraphCourier;J[J)I"⟩
abbrev cL_decode : ByteArray := method_13_code
def yL_decode : MethodName := ⟨RL, "decode", "(LGraphCourier;[J)I"⟩
abbrev cL_law : ByteArray := code
def yL_law : MethodName := ⟨RL, "law", "([I)Z"⟩
abbrev vwCl : List vw_C := [(RX0, TX0, 2), (RX1, TX1, 5), (RX2, TX2, 11), (RX3, TX3, 2), (RX4, TX4, 6), (RX5, TX5, 6), (RX6, TX6, 3), (RX7, TX7, 6), (RX8, TX8, 6), (RX9, TX9, 43)]
def shp (r : Nat) : Option (Nat ⊕ (Nat × Nat)) := match r with
  | 0 => some (.inl 8)
  | 1 => some (.inl 4)
  | 2 => some (.inr (1, 40))
  | 3 => some (.inr (3, 13))
  | 4 => some (.inr (4, 40))
  | 5 => some (.inl 6)
  | 6 => some (.inl 0)
  | 7 => some (.inr (1, 3))
  | 8 => some (.inl 5)
  | 9 => some (.inl 0)
  | 10 => some (.inr (1, 8))
  | 11 => some (.inl 0)
  | 12 => some (.inr (1, 6))
  | 13 => some (.inl 0)
  | 14 => some (.inr (1, 6))
  | 15 => some (.inl 3)
  | 16 => some (.inr (0, 600))
  | 17 => some (.inl 0)
  | 18 => some (.inr (1, 6))
  | 19 => some (.inl 7)
  | 20 => some (.inl 0)
  | 21 => some (.inr (1, 300))
  | 22 => some (.inl 0)
  | 23 => some (.inr (1, 40))
  | 24 => some (.inl 0)
  | 25 => some (.inr (1, 12))
  | 26 => some (.inr (0, 600))
  | 27 => some (.inl 2)
  | 28 => some (.inl 0)
  | 29 => some (.inr (1, 300))
  | 30 => some (.inl 0)
  | 31 => some (.inr (1, 40))
  | 32 => some (.inl 0)
  | 33 => some (.inr (1, 40))
  | 34 => some (.inl 1)
  | 35 => some (.inr (0, 40))
  | 36 => some (.inr (0, 40))
  | 37 => some (.inr (0, 40))
  | 40 => some (.inl 9)
  | 41 => some (.inr (1, 40))
  | 42 => some (.inr (1, 12))
  | 43 => some (.inr (2, 12))
  | 44 => some (.inr (0, 12))
  | 45 => some (.inr (1, 36))
  | 46 => some (.inr (0, 40))
  | 47 => some (.inr (1, 40))
  | 48 => some (.inr (0, 40))
  | 49 => some (.inr (0, 40))
  | 50 => some (.inr (1, 320))
  | 51 => some (.inr (0, 40))
  | 52 => some (.inr (1, 240))
  | 53 => some (.inr (1, 240))
  | 54 => some (.inr (1, 7))
  | 55 => some (.inr (0, 600))
  | 56 => some (.inr (1, 620))
  | 57 => some (.inr (0, 80))
  | 58 => some (.inr (0, 620))
  | 59 => some (.inr (0, 13))
  | 60 => some (.inr (0, 13))
  | 61 => some (.inr (0, 13))
  | 62 => some (.inr (2, 13))
  | 63 => some (.inr (0, 700))
  | 64 => some (.inr (0, 40))
  | 65 => some (.inr (0, 40))
  | 66 => some (.inr (0, 40))
  | 70 => some (.inr (1, 1))
  | _ => none
def cnt (r : Nat) : Nat := match r with
  | 5 => 13
  | 6 => 13
  | 7 => 13
  | 8 => 40
  | 9 => 40
  | 10 => 40
  | 11 => 40
  | 12 => 40
  | 13 => 40
  | 14 => 40
  | _ => 1
def rf (k : Nat × Nat) (j : Nat) : Option (Nat × Nat) := match k.1 with
  | 0 => (match j with | 0 => some (1, 0) | 1 => some (15, 0) | 2 => some (17, 0) | 3 => some (19, 0) | 4 => some (27, 0) | 5 => some (34, 0) | _ => none)
  | 1 => (match j with | 0 => some (2, 0) | 1 => some (3, 0) | 2 => some (4, 0) | _ => none)
  | 3 => some (5, j)
  | 4 => some (8, j)
  | 5 => (match j with | 0 => some (6, k.2) | _ => none)
  | 6 => (match j with | 0 => some (7, k.2) | _ => none)
  | 8 => (match j with | 0 => some (9, k.2) | 1 => some (11, k.2) | 2 => some (13, k.2) | _ => none)
  | 9 => (match j with | 0 => some (10, k.2) | _ => none)
  | 11 => (match j with | 0 => some (12, k.2) | _ => none)
  | 13 => (match j with | 0 => some (14, k.2) | _ => none)
  | 15 => (match j with | 0 => some (16, 0) | _ => none)
  | 17 => (match j with | 0 => some (18, 0) | _ => none)
  | 19 => (match j with | 0 => some (1, 0) | 1 => some (20, 0) | 2 => some (22, 0) | 3 => some (24, 0) | 4 => some (26, 0) | _ => none)
  | 20 => (match j with | 0 => some (21, 0) | _ => none)
  | 22 => (match j with | 0 => some (23, 0) | _ => none)
  | 24 => (match j with | 0 => some (25, 0) | _ => none)
  | 27 => (match j with | 0 => some (1, 0) | 1 => some (15, 0) | 2 => some (17, 0) | 3 => some (28, 0) | 4 => some (30, 0) | 5 => some (32, 0) | _ => none)
  | 28 => (match j with | 0 => some (29, 0) | _ => none)
  | 30 => (match j with | 0 => some (31, 0) | _ => none)
  | 32 => (match j with | 0 => some (33, 0) | _ => none)
  | 34 => (match j with | 0 => some (1, 0) | 1 => some (35, 0) | 2 => some (36, 0) | 3 => some (37, 0) | _ => none)
  | 40 => (match j with | 2 => some (41, 0) | 4 => some (42, 0) | 5 => some (43, 0) | 6 => some (44, 0) | 7 => some (45, 0) | 9 => some (46, 0) | 10 => some (47, 0) | 11 => some (48, 0) | 12 => some (49, 0) | 13 => some (50, 0) | 14 => some (51, 0) | 15 => some (52, 0) | 16 => some (53, 0) | 18 => some (54, 0) | 20 => some (55, 0) | 23 => some (56, 0) | 25 => some (57, 0) | 27 => some (58, 0) | 29 => some (59, 0) | 30 => some (60, 0) | 31 => some (61, 0) | 32 => some (62, 0) | 34 => some (63, 0) | 39 => some (64, 0) | 40 => some (65, 0) | 42 => some (66, 0) | _ => none)
  | _ => none
def ftyp (ci j : Nat) : FieldType := match ci with
  | 0 => tyX0 j
  | 1 => tyX1 j
  | 2 => tyX2 j
  | 3 => tyX3 j
  | 4 => tyX4 j
  | 5 => tyX5 j
  | 6 => tyX6 j
  | 7 => tyX7 j
  | 8 => tyX8 j
  | _ => tyX9 j
def aty (t : Nat) : FieldType := match t with | 0 => .int | 1 => .long | 2 => .boolean | 3 => .object "GraphCourier$Traits" | _ => .object "GraphCourier$Thing"
def cnm (c : Nat) : String := match c with | 0 => RX0 | 1 => RX1 | 2 => RX2 | 3 => RX3 | 4 => RX4 | 5 => RX5 | 6 => RX6 | 7 => RX7 | 8 => RX8 | 9 => RX9 | 10 => RL | 11 => "java/lang/Math" | 12 => "java/util/Arrays" | _ => "java/lang/System"
end
section
abbrev Rw : Type := Instr × Nat × Nat
abbrev Mt : Type := MethodName × ByteArray × Nat × Option FieldType × Nat × List (Nat × Rw)
def yN (y : Mt) : MethodName := y.1
def yB (y : Mt) : ByteArray := y.2.1
def yL (y : Mt) : Nat := y.2.2.1
def yR (y : Mt) : Option FieldType := y.2.2.2.1
def yC (y : Mt) : Nat := y.2.2.2.2.1
def yT (y : Mt) : List (Nat × Rw) := y.2.2.2.2.2
def tget {α : Type} : List (Nat × α) → Nat → Option α
  | [], _ => none
  | q :: t, n => bif Nat.beq q.1 n then some q.2 else tget t n
theorem tget_mem {α : Type} : ∀ {l : List (Nat × α)} {n : Nat} {v : α}, tget l n = some v → (n, v) ∈ l
  | [], _, _, h => by cases h
  | q :: t, n, v, h => by
    unfold tget at h
    cases hq : Nat.beq q.1 n with
    | true =>
      rw [hq] at h
      have e := Nat.eq_of_beq_eq_true hq
      cases h
      rw [← e]
      exact List.mem_cons_self
    | false =>
      rw [hq] at h
      exact List.mem_cons_of_mem _ (tget_mem h)
def tgo : Instr → Option Int
  | .goto o => some o
  | .ifCond _ o => some o
  | .if_icmp _ o => some o
  | _ => none
def chkR (b : ByteArray) (q : Nat × Rw) : Bool := decide (decode b q.1 = .ok (q.2.1, q.2.2.1 - q.1)) && decide (q.1 ≤ q.2.2.1) && (match tgo q.2.1 with | some o => decide ((q.1 : Int) + o = (q.2.2.2 : Int)) | none => true)
def okT (y : Mt) : Prop := (yT y).all (chkR (yB y)) = true
def tX0_init : List (Nat × Rw) := [(0, .aload_n 0, 1, 0), (1, .invokespecial 3, 4, 0), (4, .aload_n 0, 5, 0), (5, .iload_n 1, 6, 0), (6, .newarray .long, 8, 0), (8, .putfield 9, 11, 0), (11, .return_, 12, 0)]
def mX0_init : Mt := (yX0_init, cX0_init, 2, none, 0, tX0_init)
def tX0_empty : List (Nat × Rw) := [(0, .aload_n 0, 1, 0), (1, .iconst 0, 2, 0), (2, .putfield 15, 5, 0), (5, .return_, 6, 0)]
def mX0_empty : Mt := (yX0_empty, cX0_empty, 1, none, 0, tX0_empty)
def tX0_isFull : List (Nat × Rw) := [(0, .aload_n 0, 1, 0), (1, .getfield 15, 4, 0), (4, .aload_n 0, 5, 0), (5, .getfield 9, 8, 0), (8, .arraylength, 9, 0), (9, .if_icmp .ne 7, 12, 16), (12, .iconst 1, 13, 0), (13, .goto 4, 16, 17), (16, .iconst 0, 17, 0), (17, .ireturn, 18, 0)]
def mX0_isFull : Mt := (yX0_isFull, cX0_isFull, 1, (some .boolean), 0, tX0_isFull)
def tX0_add : List (Nat × Rw) := [(0, .aload_n 0, 1, 0), (1, .getfield 15, 4, 0), (4, .aload_n 0, 5, 0), (5, .getfield 9, 8, 0), (8, .arraylength, 9, 0), (9, .if_icmp .ge 23, 12, 32), (12, .aload_n 0, 13, 0), (13, .getfield 9, 16, 0), (16, .aload_n 0, 17, 0), (17, .getfield 15, 20, 0), (20, .lload_n 1, 21, 0), (21, .lastore, 22, 0), (22, .aload_n 0, 23, 0), (23, .dup, 24, 0), (24, .getfield 15, 27, 0), (27, .iconst 1, 28, 0), (28, .iadd, 29, 0), (29, .putfield 15, 32, 0), (32, .return_, 33, 0)]
def mX0_add : Mt := (yX0_add, cX0_add, 3, none, 0, tX0_add)
def tX0_replace : List (Nat × Rw) := [(0, .iload_n 1, 1, 0), (1, .ifCond .lt 18, 4, 19), (4, .iload_n 1, 5, 0), (5, .aload_n 0, 6, 0), (6, .getfield 15, 9, 0), (9, .if_icmp .ge 10, 12, 19), (12, .aload_n 0, 13, 0), (13, .getfield 9, 16, 0), (16, .iload_n 1, 17, 0), (17, .lload_n 2, 18, 0), (18, .lastore, 19, 0), (19, .return_, 20, 0)]
def mX0_replace : Mt := (yX0_replace, cX0_replace, 4, none, 0, tX0_replace)
def tX0_at : List (Nat × Rw) := [(0, .iload_n 1, 1, 0), (1, .ifCond .lt 20, 4, 21), (4, .iload_n 1, 5, 0), (5, .aload_n 0, 6, 0), (6, .getfield 15, 9, 0), (9, .if_icmp .ge 12, 12, 21), (12, .aload_n 0, 13, 0), (13, .getfield 9, 16, 0), (16, .iload_n 1, 17, 0), (17, .laload, 18, 0), (18, .goto 6, 21, 24), (21, .ldc2_w 19, 24, 0), (24, .lreturn, 25, 0)]
def mX0_at : Mt := (yX0_at, cX0_at, 2, (some .long), 0, tX0_at)
def tX0_placeOf : List (Nat × Rw) := [(0, .iconst 0, 1, 0), (1, .istore_n 3, 2, 0), (2, .iload_n 3, 3, 0), (3, .aload_n 0, 4, 0), (4, .getfield 15, 7, 0), (7, .if_icmp .ge 22, 10, 29), (10, .aload_n 0, 11, 0), (11, .getfield 9, 14, 0), (14, .iload_n 3, 15, 0), (15, .laload, 16, 0), (16, .lload_n 1, 17, 0), (17, .lcmp, 18, 0), (18, .ifCond .ne 5, 21, 23), (21, .iload_n 3, 22, 0), (22, .ireturn, 23, 0), (23, .iinc 3 1, 26, 0), (26, .goto (-24), 29, 2), (29, .iconst (-1), 30, 0), (30, .ireturn, 31, 0)]
def mX0_placeOf : Mt := (yX0_placeOf, cX0_placeOf, 4, (some .int), 0, tX0_placeOf)
def tX0_has : List (Nat × Rw) := [(0, .aload_n 0, 1, 0), (1, .lload_n 1, 2, 0), (2, .invokevirtual 21, 5, 0), (5, .iconst (-1), 6, 0), (6, .if_icmp .eq 7, 9, 13), (9, .iconst 1, 10, 0), (10, .goto 4, 13, 14), (13, .iconst 0, 14, 0), (14, .ireturn, 15, 0)]
def mX0_has : Mt := (yX0_has, cX0_has, 3, (some .boolean), 0, tX0_has)
def tX0_isLike : List (Nat × Rw) := [(0, .aload_n 0, 1, 0), (1, .getfield 15, 4, 0), (4, .aload_n 1, 5, 0), (5, .getfield 15, 8, 0), (8, .if_icmp .eq 5, 11, 13), (11, .iconst 0, 12, 0), (12, .ireturn, 13, 0), (13, .iconst 0, 14, 0), (14, .istore_n 2, 15, 0), (15, .iload_n 2, 16, 0), (16, .aload_n 0, 17, 0), (17, .getfield 15, 20, 0), (20, .if_icmp .ge 27, 23, 47), (23, .aload_n 0, 24, 0), (24, .getfield 9, 27, 0), (27, .iload_n 2, 28, 0), (28, .laload, 29, 0), (29, .aload_n 1, 30, 0), (30, .getfield 9, 33, 0), (33, .iload_n 2, 34, 0), (34, .laload, 35, 0), (35, .lcmp, 36, 0), (36, .ifCond .eq 5, 39, 41), (39, .iconst 0, 40, 0), (40, .ireturn, 41, 0), (41, .iinc 2 1, 44, 0), (44, .goto (-29), 47, 15), (47, .iconst 1, 48, 0), (48, .ireturn, 49, 0)]
def mX0_isLike : Mt := (yX0_isLike, cX0_isLike, 3, (some .boolean), 0, tX0_isLike)
def tX6_become : List (Nat × Rw) := [(0, .aload_n 0, 1, 0), (1, .lload_n 1, 2, 0), (2, .putfield 20, 5, 0), (5, .aload_n 0, 6, 0), (6, .iload_n 3, 7, 0), (7, .putfield 24, 10, 0), (10, .aload_n 0, 11, 0), (11, .getfield 14, 14, 0), (14, .invokevirtual 28, 17, 0), (17, .return_, 18, 0)]
def mX6_become : Mt := (yX6_become, cX6_become, 4, none, 6, tX6_become)
def tX6_isAlike : List (Nat × Rw) := [(0, .aload_n 0, 1, 0), (1, .getfield 20, 4, 0), (4, .aload_n 1, 5, 0), (5, .getfield 20, 8, 0), (8, .lcmp, 9, 0), (9, .ifCond .ne 32, 12, 41), (12, .aload_n 0, 13, 0), (13, .getfield 24, 16, 0), (16, .aload_n 1, 17, 0), (17, .getfield 24, 20, 0), (20, .if_icmp .ne 21, 23, 41), (23, .aload_n 0, 24, 0), (24, .getfield 14, 27, 0), (27, .aload_n 1, 28, 0), (28, .getfield 14, 31, 0), (31, .invokevirtual 31, 34, 0), (34, .ifCond .eq 7, 37, 41), (37, .iconst 1, 38, 0), (38, .goto 4, 41, 42), (41, .iconst 0, 42, 0), (42, .ireturn, 43, 0)]
def mX6_isAlike : Mt := (yX6_isAlike, cX6_isAlike, 2, (some .boolean), 6, tX6_isAlike)
def tX6_init : List (Nat × Rw) := [(0, .aload_n 0, 1, 0), (1, .invokespecial 3, 4, 0), (4, .aload_n 0, 5, 0), (5, .new 9, 8, 0), (8, .dup, 9, 0), (9, .iconst 3, 10, 0), (10, .invokespecial 11, 13, 0), (13, .putfield 14, 16, 0), (16, .return_, 17, 0)]
def mX6_init : Mt := (yX6_init, cX6_init, 1, none, 6, tX6_init)
def tX5_become : List (Nat × Rw) := [(0, .aload_n 0, 1, 0), (1, .iload_n 1, 2, 0), (2, .putfield 26, 5, 0), (5, .aload_n 0, 6, 0), (6, .iconst (-1), 7, 0), (7, .putfield 30, 10, 0), (10, .aload_n 0, 11, 0), (11, .lconst 0, 12, 0), (12, .putfield 33, 15, 0), (15, .aload_n 0, 16, 0), (16, .getfield 14, 19, 0), (19, .invokevirtual 37, 22, 0), (22, .aload_n 0, 23, 0), (23, .getfield 20, 26, 0), (26, .invokevirtual 37, 29, 0), (29, .aload_n 0, 30, 0), (30, .getfield 23, 33, 0), (33, .invokevirtual 37, 36, 0), (36, .return_, 37, 0)]
def mX5_become : Mt := (yX5_become, cX5_become, 2, none, 5, tX5_become)
def tX5_init : List (Nat × Rw) := [(0, .aload_n 0, 1, 0), (1, .invokespecial 3, 4, 0), (4, .aload_n 0, 5, 0), (5, .new 9, 8, 0), (8, .dup, 9, 0), (9, .bipush 8, 11, 0), (11, .invokespecial 11, 14, 0), (14, .putfield 14, 17, 0), (17, .aload_n 0, 18, 0), (18, .new 9, 21, 0), (21, .dup, 22, 0), (22, .bipush 6, 24, 0), (24, .invokespecial 11, 27, 0), (27, .putfield 20, 30, 0), (30, .aload_n 0, 31, 0), (31, .new 9, 34, 0), (34, .dup, 35, 0), (35, .bipush 6, 37, 0), (37, .invokespecial 11, 40, 0), (40, .putfield 23, 43, 0), (43, .return_, 44, 0)]
def mX5_init : Mt := (yX5_init, cX5_init, 1, none, 5, tX5_init)
def tX3_init : List (Nat × Rw) := [(0, .aload_n 0, 1, 0), (1, .invokespecial 3, 4, 0), (4, .aload_n 0, 5, 0), (5, .sipush 600, 8, 0), (8, .newarray .int, 10, 0), (10, .putfield 9, 13, 0), (13, .return_, 14, 0)]
def mX3_init : Mt := (yX3_init, cX3_init, 1, none, 3, tX3_init)
def tX3_become : List (Nat × Rw) := [(0, .aload_n 1, 1, 0), (1, .iconst 0, 2, 0), (2, .aload_n 0, 3, 0), (3, .getfield 9, 6, 0), (6, .iconst 0, 7, 0), (7, .iload_n 2, 8, 0), (8, .invokestatic 15, 11, 0), (11, .aload_n 0, 12, 0), (12, .iload_n 2, 13, 0), (13, .putfield 21, 16, 0), (16, .return_, 17, 0)]
def mX3_become : Mt := (yX3_become, cX3_become, 3, none, 3, tX3_become)
def tX4_keepOnly : List (Nat × Rw) := [(0, .aload_n 0, 1, 0), (1, .iload_n 1, 2, 0), (2, .putfield 29, 5, 0), (5, .aload_n 0, 6, 0), (6, .iload_n 2, 7, 0), (7, .putfield 33, 10, 0), (10, .aload_n 0, 11, 0), (11, .iload_n 3, 12, 0), (12, .putfield 36, 15, 0), (15, .return_, 16, 0)]
def mX4_keepOnly : Mt := (yX4_keepOnly, cX4_keepOnly, 4, none, 4, tX4_keepOnly)
def tX4_placeOfDraft : List (Nat × Rw) := [(0, .iconst 0, 1, 0), (1, .istore_n 2, 2, 0), (2, .iload_n 2, 3, 0), (3, .iload_n 1, 4, 0), (4, .if_icmp .ge 29, 7, 33), (7, .aload_n 0, 8, 0), (8, .getfield 17, 11, 0), (11, .iload_n 2, 12, 0), (12, .aaload, 13, 0), (13, .aload_n 0, 14, 0), (14, .getfield 17, 17, 0), (17, .iload_n 1, 18, 0), (18, .aaload, 19, 0), (19, .invokevirtual 80, 22, 0), (22, .ifCond .eq 5, 25, 27), (25, .iload_n 2, 26, 0), (26, .ireturn, 27, 0), (27, .iinc 2 1, 30, 0), (30, .goto (-28), 33, 2), (33, .iload_n 1, 34, 0), (34, .ireturn, 35, 0)]
def mX4_placeOfDraft : Mt := (yX4_placeOfDraft, cX4_placeOfDraft, 3, (some .int), 4, tX4_placeOfDraft)
def tX4_giveTraits : List (Nat × Rw) := [(0, .aload_n 1, 1, 0), (1, .iload_n 2, 2, 0), (2, .putfield 62, 5, 0), (5, .iconst 0, 6, 0), (6, .istore_n 3, 7, 0), (7, .iload_n 3, 8, 0), (8, .aload_n 0, 9, 0), (9, .getfield 17, 12, 0), (12, .iload_n 2, 13, 0), (13, .aaload, 14, 0), (14, .getfield 64, 17, 0), (17, .getfield 68, 20, 0), (20, .if_icmp .ge 17, 23, 37), (23, .aload_n 1, 24, 0), (24, .getfield 73, 27, 0), (27, .lconst 0, 28, 0), (28, .invokevirtual 76, 31, 0), (31, .iinc 3 1, 34, 0), (34, .goto (-27), 37, 7), (37, .return_, 38, 0)]
def mX4_giveTraits : Mt := (yX4_giveTraits, cX4_giveTraits, 4, none, 4, tX4_giveTraits)
def tX4_canHavePairs : List (Nat × Rw) := [(0, .aload_n 1, 1, 0), (1, .getfield 84, 4, 0), (4, .bipush 9, 6, 0), (6, .if_icmp .eq 27, 9, 33), (9, .aload_n 1, 10, 0), (10, .getfield 84, 13, 0), (13, .bipush 10, 15, 0), (15, .if_icmp .ne 22, 18, 37), (18, .aload_n 0, 19, 0), (19, .getfield 17, 22, 0), (22, .aload_n 1, 23, 0), (23, .getfield 62, 26, 0), (26, .aaload, 27, 0), (27, .getfield 87, 30, 0), (30, .ifCond .eq 7, 33, 37), (33, .iconst 1, 34, 0), (34, .goto 4, 37, 38), (37, .iconst 0, 38, 0), (38, .ireturn, 39, 0)]
def mX4_canHavePairs : Mt := (yX4_canHavePairs, cX4_canHavePairs, 2, (some .boolean), 4, tX4_canHavePairs)
def tX4_isMember : List (Nat × Rw) := [(0, .aload_n 1, 1, 0), (1, .getfield 84, 4, 0), (4, .bipush 10, 6, 0), (6, .if_icmp .ne 26, 9, 32), (9, .aload_n 0, 10, 0), (10, .getfield 17, 13, 0), (13, .aload_n 1, 14, 0), (14, .getfield 62, 17, 0), (17, .aaload, 18, 0), (18, .getfield 64, 21, 0), (21, .lload_n 2, 22, 0), (22, .invokevirtual 91, 25, 0), (25, .ifCond .eq 7, 28, 32), (28, .iconst 1, 29, 0), (29, .goto 4, 32, 33), (32, .iconst 0, 33, 0), (33, .ireturn, 34, 0)]
def mX4_isMember : Mt := (yX4_isMember, cX4_isMember, 4, (some .boolean), 4, tX4_isMember)
def tX4_init : List (Nat × Rw) := [(0, .aload_n 0, 1, 0), (1, .invokespecial 3, 4, 0), (4, .aload_n 0, 5, 0), (5, .bipush 40, 7, 0), (7, .newarray .long, 9, 0), (9, .putfield 9, 12, 0), (12, .aload_n 0, 13, 0), (13, .bipush 13, 15, 0), (15, .anewarray 15, 18, 0), (18, .putfield 17, 21, 0), (21, .aload_n 0, 22, 0), (22, .bipush 40, 24, 0), (24, .anewarray 21, 27, 0), (27, .putfield 23, 30, 0), (30, .iconst 0, 31, 0), (31, .istore_n 1, 32, 0), (32, .iload_n 1, 33, 0), (33, .bipush 12, 35, 0), (35, .if_icmp .gt 22, 38, 57), (38, .aload_n 0, 39, 0), (39, .getfield 17, 42, 0), (42, .iload_n 1, 43, 0), (43, .new 15, 46, 0), (46, .dup, 47, 0), (47, .invokespecial 27, 50, 0), (50, .aastore, 51, 0), (51, .iinc 1 1, 54, 0), (54, .goto (-22), 57, 32), (57, .iconst 0, 58, 0), (58, .istore_n 1, 59, 0), (59, .iload_n 1, 60, 0), (60, .bipush 40, 62, 0), (62, .if_icmp .ge 22, 65, 84), (65, .aload_n 0, 66, 0), (66, .getfield 23, 69, 0), (69, .iload_n 1, 70, 0), (70, .new 21, 73, 0), (73, .dup, 74, 0), (74, .invokespecial 28, 77, 0), (77, .aastore, 78, 0), (78, .iinc 1 1, 81, 0), (81, .goto (-22), 84, 59), (84, .return_, 85, 0)]
def mX4_init : Mt := (yX4_init, cX4_init, 2, none, 4, tX4_init)
def tX4_isThing : List (Nat × Rw) := [(0, .lload_n 1, 1, 0), (1, .lconst 0, 2, 0), (2, .lcmp, 3, 0), (3, .ifCond .lt 17, 6, 20), (6, .lload_n 1, 7, 0), (7, .aload_n 0, 8, 0), (8, .getfield 36, 11, 0), (11, .i2l, 12, 0), (12, .lcmp, 13, 0), (13, .ifCond .ge 7, 16, 20), (16, .iconst 1, 17, 0), (17, .goto 4, 20, 21), (20, .iconst 0, 21, 0), (21, .ireturn, 22, 0)]
def mX4_isThing : Mt := (yX4_isThing, cX4_isThing, 3, (some .boolean), 4, tX4_isThing)
def tX4_isValue : List (Nat × Rw) := [(0, .lload_n 1, 1, 0), (1, .invokestatic 39, 4, 0), (4, .istore_n 3, 5, 0), (5, .lload_n 1, 6, 0), (6, .invokestatic 43, 9, 0), (9, .lstore 4, 11, 0), (11, .iload_n 3, 12, 0), (12, .tableswitch 93 4 7 #[32, 56, 80, 86], 44, 0), (44, .lload 4, 46, 0), (46, .ldc2_w 47, 49, 0), (49, .lcmp, 50, 0), (50, .ifCond .lt 16, 53, 66), (53, .lload 4, 55, 0), (55, .ldc2_w 49, 58, 0), (58, .lcmp, 59, 0), (59, .ifCond .ge 7, 62, 66), (62, .iconst 1, 63, 0), (63, .goto 4, 66, 67), (66, .iconst 0, 67, 0), (67, .ireturn, 68, 0), (68, .lload 4, 70, 0), (70, .lconst 0, 71, 0), (71, .lcmp, 72, 0), (72, .ifCond .lt 18, 75, 90), (75, .lload 4, 77, 0), (77, .aload_n 0, 78, 0), (78, .getfield 29, 81, 0), (81, .i2l, 82, 0), (82, .lcmp, 83, 0), (83, .ifCond .ge 7, 86, 90), (86, .iconst 1, 87, 0), (87, .goto 4, 90, 91), (90, .iconst 0, 91, 0), (91, .ireturn, 92, 0), (92, .lload 4, 94, 0), (94, .invokestatic 51, 97, 0), (97, .ireturn, 98, 0), (98, .aload_n 0, 99, 0), (99, .lload 4, 101, 0), (101, .invokevirtual 55, 104, 0), (104, .ireturn, 105, 0), (105, .iload_n 3, 106, 0), (106, .iconst 3, 107, 0), (107, .if_icmp .gt 14, 110, 121), (110, .lload 4, 112, 0), (112, .lconst 0, 113, 0), (113, .lcmp, 114, 0), (114, .ifCond .ne 7, 117, 121), (117, .iconst 1, 118, 0), (118, .goto 4, 121, 122), (121, .iconst 0, 122, 0), (122, .ireturn, 123, 0)]
def mX4_isValue : Mt := (yX4_isValue, cX4_isValue, 6, (some .boolean), 4, tX4_isValue)
def tX4_makeThing : List (Nat × Rw) := [(0, .aload_n 0, 1, 0), (1, .getfield 23, 4, 0), (4, .aload_n 0, 5, 0), (5, .getfield 36, 8, 0), (8, .aaload, 9, 0), (9, .iload_n 1, 10, 0), (10, .invokevirtual 58, 13, 0), (13, .aload_n 0, 14, 0), (14, .dup, 15, 0), (15, .getfield 36, 18, 0), (18, .iconst 1, 19, 0), (19, .iadd, 20, 0), (20, .putfield 36, 23, 0), (23, .aload_n 0, 24, 0), (24, .getfield 36, 27, 0), (27, .iconst 1, 28, 0), (28, .isub, 29, 0), (29, .ireturn, 30, 0)]
def mX4_makeThing : Mt := (yX4_makeThing, cX4_makeThing, 2, (some .int), 4, tX4_makeThing)
def tX8_kindOf : List (Nat × Rw) := [(0, .lload_n 0, 1, 0), (1, .ldc2_w 246, 4, 0), (4, .land, 5, 0), (5, .l2i, 6, 0), (6, .ireturn, 7, 0)]
def mX8_kindOf : Mt := (yX8_kindOf, cX8_kindOf, 2, (some .int), 8, tX8_kindOf)
def tX8_aboveKind : List (Nat × Rw) := [(0, .lload_n 0, 1, 0), (1, .iconst 4, 2, 0), (2, .lshr, 3, 0), (3, .lreturn, 4, 0)]
def mX8_aboveKind : Mt := (yX8_aboveKind, cX8_aboveKind, 2, (some .long), 8, tX8_aboveKind)
def tX8_valueOf : List (Nat × Rw) := [(0, .ldc2_w 244, 3, 0), (3, .lload_n 1, 4, 0), (4, .lmul, 5, 0), (5, .iload_n 0, 6, 0), (6, .i2l, 7, 0), (7, .ladd, 8, 0), (8, .lreturn, 9, 0)]
def mX8_valueOf : Mt := (yX8_valueOf, cX8_valueOf, 3, (some .long), 8, tX8_valueOf)
def tX8_isText : List (Nat × Rw) := [(0, .lload_n 0, 1, 0), (1, .lstore_n 2, 2, 0), (2, .iconst 0, 3, 0), (3, .istore 4, 5, 0), (5, .iload 4, 7, 0), (7, .bipush 7, 9, 0), (9, .if_icmp .ge 45, 12, 54), (12, .lload_n 2, 13, 0), (13, .lconst 0, 14, 0), (14, .lcmp, 15, 0), (15, .ifCond .eq 39, 18, 54), (18, .lload_n 2, 19, 0), (19, .ldc2_w 95, 22, 0), (22, .land, 23, 0), (23, .lstore 5, 25, 0), (25, .lload 5, 27, 0), (27, .lconst 0, 28, 0), (28, .lcmp, 29, 0), (29, .ifCond .eq 12, 32, 41), (32, .lload 5, 34, 0), (34, .ldc2_w 242, 37, 0), (37, .lcmp, 38, 0), (38, .ifCond .le 5, 41, 43), (41, .iconst 0, 42, 0), (42, .ireturn, 43, 0), (43, .lload_n 2, 44, 0), (44, .bipush 8, 46, 0), (46, .lushr, 47, 0), (47, .lstore_n 2, 48, 0), (48, .iinc 4 1, 51, 0), (51, .goto (-46), 54, 5), (54, .lload_n 2, 55, 0), (55, .lconst 0, 56, 0), (56, .lcmp, 57, 0), (57, .ifCond .ne 7, 60, 64), (60, .iconst 1, 61, 0), (61, .goto 4, 64, 65), (64, .iconst 0, 65, 0), (65, .ireturn, 66, 0)]
def mX8_isText : Mt := (yX8_isText, cX8_isText, 7, (some .boolean), 8, tX8_isText)
def tX8_textSize : List (Nat × Rw) := [(0, .iconst 0, 1, 0), (1, .istore_n 2, 2, 0), (2, .iconst 0, 3, 0), (3, .istore_n 3, 4, 0), (4, .iload_n 3, 5, 0), (5, .bipush 7, 7, 0), (7, .if_icmp .ge 32, 10, 39), (10, .iload_n 2, 11, 0), (11, .lload_n 0, 12, 0), (12, .bipush 8, 14, 0), (14, .iload_n 3, 15, 0), (15, .imul, 16, 0), (16, .lshr, 17, 0), (17, .ldc2_w 95, 20, 0), (20, .land, 21, 0), (21, .lconst 0, 22, 0), (22, .lcmp, 23, 0), (23, .ifCond .eq 7, 26, 30), (26, .iconst 1, 27, 0), (27, .goto 4, 30, 31), (30, .iconst 0, 31, 0), (31, .iadd, 32, 0), (32, .istore_n 2, 33, 0), (33, .iinc 3 1, 36, 0), (36, .goto (-32), 39, 4), (39, .iload_n 2, 40, 0), (40, .ireturn, 41, 0)]
def mX8_textSize : Mt := (yX8_textSize, cX8_textSize, 4, (some .int), 8, tX8_textSize)
def tX8_init : List (Nat × Rw) := [(0, .aload_n 0, 1, 0), (1, .invokespecial 3, 4, 0), (4, .new 9, 7, 0), (7, .dup, 8, 0), (8, .invokespecial 11, 11, 0), (11, .astore_n 1, 12, 0), (12, .new 12, 15, 0), (15, .dup, 16, 0), (16, .invokespecial 14, 19, 0), (19, .astore_n 2, 20, 0), (20, .new 15, 23, 0), (23, .dup, 24, 0), (24, .bipush 6, 26, 0), (26, .invokespecial 17, 29, 0), (29, .astore_n 3, 30, 0), (30, .aload_n 0, 31, 0), (31, .aload_n 1, 32, 0), (32, .putfield 20, 35, 0), (35, .aload_n 0, 36, 0), (36, .aload_n 2, 37, 0), (37, .putfield 24, 40, 0), (40, .aload_n 0, 41, 0), (41, .aload_n 3, 42, 0), (42, .putfield 28, 45, 0), (45, .aload_n 0, 46, 0), (46, .new 32, 49, 0), (49, .dup, 50, 0), (50, .aload_n 1, 51, 0), (51, .invokespecial 34, 54, 0), (54, .putfield 37, 57, 0), (57, .aload_n 0, 58, 0), (58, .new 41, 61, 0), (61, .dup, 62, 0), (62, .aload_n 1, 63, 0), (63, .aload_n 2, 64, 0), (64, .aload_n 3, 65, 0), (65, .invokespecial 43, 68, 0), (68, .putfield 46, 71, 0), (71, .aload_n 0, 72, 0), (72, .new 50, 75, 0), (75, .dup, 76, 0), (76, .aload_n 1, 77, 0), (77, .invokespecial 52, 80, 0), (80, .putfield 53, 83, 0), (83, .return_, 84, 0)]
def mX8_init : Mt := (yX8_init, cX8_init, 4, none, 8, tX8_init)
def tX8_wide : List (Nat × Rw) := [(0, .aload_n 0, 1, 0), (1, .getfield 20, 4, 0), (4, .getfield 57, 7, 0), (7, .bipush 40, 9, 0), (9, .if_icmp .ne 11, 12, 20), (12, .new 61, 15, 0), (15, .dup, 16, 0), (16, .invokespecial 63, 19, 0), (19, .athrow, 20, 0), (20, .aload_n 0, 21, 0), (21, .getfield 20, 24, 0), (24, .getfield 64, 27, 0), (27, .aload_n 0, 28, 0), (28, .getfield 20, 31, 0), (31, .getfield 57, 34, 0), (34, .lload_n 1, 35, 0), (35, .lastore, 36, 0), (36, .aload_n 0, 37, 0), (37, .getfield 20, 40, 0), (40, .dup, 41, 0), (41, .getfield 57, 44, 0), (44, .iconst 1, 45, 0), (45, .iadd, 46, 0), (46, .putfield 57, 49, 0), (49, .iconst 5, 50, 0), (50, .aload_n 0, 51, 0), (51, .getfield 20, 54, 0), (54, .getfield 57, 57, 0), (57, .iconst 1, 58, 0), (58, .isub, 59, 0), (59, .i2l, 60, 0), (60, .invokestatic 68, 63, 0), (63, .lreturn, 64, 0)]
def mX8_wide : Mt := (yX8_wide, cX8_wide, 3, (some .long), 8, tX8_wide)
def tX8_refuseFortyFirst : List (Nat × Rw) := [(0, .aload_n 0, 1, 0), (1, .getfield 20, 4, 0), (4, .getfield 207, 7, 0), (7, .bipush 40, 9, 0), (9, .if_icmp .ne 11, 12, 20), (12, .new 61, 15, 0), (15, .dup, 16, 0), (16, .invokespecial 63, 19, 0), (19, .athrow, 20, 0), (20, .return_, 21, 0)]
def mX8_refuseFortyFirst : Mt := (yX8_refuseFortyFirst, cX8_refuseFortyFirst, 1, none, 8, tX8_refuseFortyFirst)
def tX8_date : List (Nat × Rw) := [(0, .aload_n 0, 1, 0), (1, .invokevirtual 72, 4, 0), (4, .aload_n 0, 5, 0), (5, .getfield 20, 8, 0), (8, .bipush 8, 10, 0), (10, .invokevirtual 75, 13, 0), (13, .istore_n 3, 14, 0), (14, .aload_n 0, 15, 0), (15, .getfield 20, 18, 0), (18, .getfield 79, 21, 0), (21, .iload_n 3, 22, 0), (22, .aaload, 23, 0), (23, .lload_n 1, 24, 0), (24, .putfield 83, 27, 0), (27, .bipush 7, 29, 0), (29, .iload_n 3, 30, 0), (30, .i2l, 31, 0), (31, .invokestatic 68, 34, 0), (34, .lreturn, 35, 0)]
def mX8_date : Mt := (yX8_date, cX8_date, 4, (some .long), 8, tX8_date)
def tX8_bytes : List (Nat × Rw) := [(0, .iload_n 3, 1, 0), (1, .ifCond .lt 9, 4, 10), (4, .iload_n 3, 5, 0), (5, .bipush 8, 7, 0), (7, .if_icmp .le 11, 10, 18), (10, .new 89, 13, 0), (13, .dup, 14, 0), (14, .invokespecial 91, 17, 0), (17, .athrow, 18, 0), (18, .aload_n 0, 19, 0), (19, .invokevirtual 72, 22, 0), (22, .aload_n 0, 23, 0), (23, .getfield 20, 26, 0), (26, .bipush 12, 28, 0), (28, .invokevirtual 75, 31, 0), (31, .istore 4, 33, 0), (33, .iconst 0, 34, 0), (34, .istore 5, 36, 0), (36, .iload 5, 38, 0), (38, .iload_n 3, 39, 0), (39, .if_icmp .ge 40, 42, 79), (42, .aload_n 0, 43, 0), (43, .getfield 20, 46, 0), (46, .getfield 79, 49, 0), (49, .iload 4, 51, 0), (51, .aaload, 52, 0), (52, .getfield 92, 55, 0), (55, .iconst 4, 56, 0), (56, .lload_n 1, 57, 0), (57, .bipush 8, 59, 0), (59, .iload 5, 61, 0), (61, .imul, 62, 0), (62, .lshr, 63, 0), (63, .ldc2_w 95, 66, 0), (66, .land, 67, 0), (67, .invokestatic 68, 70, 0), (70, .invokevirtual 97, 73, 0), (73, .iinc 5 1, 76, 0), (76, .goto (-40), 79, 36), (79, .bipush 7, 81, 0), (81, .iload 4, 83, 0), (83, .i2l, 84, 0), (84, .invokestatic 68, 87, 0), (87, .lreturn, 88, 0)]
def mX8_bytes : Mt := (yX8_bytes, cX8_bytes, 6, (some .long), 8, tX8_bytes)
def tX8_array : List (Nat × Rw) := [(0, .aload_n 0, 1, 0), (1, .invokevirtual 72, 4, 0), (4, .bipush 7, 6, 0), (6, .aload_n 0, 7, 0), (7, .getfield 20, 10, 0), (10, .bipush 9, 12, 0), (12, .invokevirtual 75, 15, 0), (15, .i2l, 16, 0), (16, .invokestatic 68, 19, 0), (19, .lreturn, 20, 0)]
def mX8_array : Mt := (yX8_array, cX8_array, 1, (some .long), 8, tX8_array)
def tX8_canBeMembers : List (Nat × Rw) := [(0, .lload_n 0, 1, 0), (1, .invokestatic 101, 4, 0), (4, .ifCond .eq 18, 7, 22), (7, .lload_n 2, 8, 0), (8, .invokestatic 101, 11, 0), (11, .ifCond .eq 11, 14, 22), (14, .lload 4, 16, 0), (16, .invokestatic 101, 19, 0), (19, .ifCond .ne 5, 22, 24), (22, .iconst 0, 23, 0), (23, .ireturn, 24, 0), (24, .lload_n 0, 25, 0), (25, .lconst 0, 26, 0), (26, .lcmp, 27, 0), (27, .ifCond .ne 22, 30, 49), (30, .lload_n 2, 31, 0), (31, .lconst 0, 32, 0), (32, .lcmp, 33, 0), (33, .ifCond .ne 14, 36, 47), (36, .lload 4, 38, 0), (38, .lconst 0, 39, 0), (39, .lcmp, 40, 0), (40, .ifCond .ne 7, 43, 47), (43, .iconst 1, 44, 0), (44, .goto 4, 47, 48), (47, .iconst 0, 48, 0), (48, .ireturn, 49, 0), (49, .lload_n 2, 50, 0), (50, .lconst 0, 51, 0), (51, .lcmp, 52, 0), (52, .ifCond .ne 16, 55, 68), (55, .lload 4, 57, 0), (57, .lconst 0, 58, 0), (58, .lcmp, 59, 0), (59, .ifCond .ne 7, 62, 66), (62, .iconst 1, 63, 0), (63, .goto 4, 66, 67), (66, .iconst 0, 67, 0), (67, .ireturn, 68, 0), (68, .lload_n 0, 69, 0), (69, .lload_n 2, 70, 0), (70, .lcmp, 71, 0), (71, .ifCond .eq 21, 74, 92), (74, .lload_n 0, 75, 0), (75, .lload 4, 77, 0), (77, .lcmp, 78, 0), (78, .ifCond .eq 14, 81, 92), (81, .lload_n 2, 82, 0), (82, .lload 4, 84, 0), (84, .lcmp, 85, 0), (85, .ifCond .eq 7, 88, 92), (88, .iconst 1, 89, 0), (89, .goto 4, 92, 93), (92, .iconst 0, 93, 0), (93, .ireturn, 94, 0)]
def mX8_canBeMembers : Mt := (yX8_canBeMembers, cX8_canBeMembers, 6, (some .boolean), 8, tX8_canBeMembers)
def tX8_addMember : List (Nat × Rw) := [(0, .lload_n 1, 1, 0), (1, .lconst 0, 2, 0), (2, .lcmp, 3, 0), (3, .ifCond .eq 11, 6, 14), (6, .aload_n 0, 7, 0), (7, .getfield 239, 10, 0), (10, .lload_n 1, 11, 0), (11, .invokevirtual 97, 14, 0), (14, .return_, 15, 0)]
def mX8_addMember : Mt := (yX8_addMember, cX8_addMember, 3, none, 8, tX8_addMember)
def tX8_traits : List (Nat × Rw) := [(0, .lload_n 1, 1, 0), (1, .invokestatic 101, 4, 0), (4, .ifCond .eq 15, 7, 19), (7, .lload 4, 9, 0), (9, .lload 6, 11, 0), (11, .lload 8, 13, 0), (13, .invokestatic 105, 16, 0), (16, .ifCond .ne 11, 19, 27), (19, .new 89, 22, 0), (22, .dup, 23, 0), (23, .invokespecial 91, 26, 0), (26, .athrow, 27, 0), (27, .aload_n 0, 28, 0), (28, .getfield 20, 31, 0), (31, .getfield 109, 34, 0), (34, .aload_n 0, 35, 0), (35, .getfield 20, 38, 0), (38, .getfield 113, 41, 0), (41, .aaload, 42, 0), (42, .astore 10, 44, 0), (44, .aload 10, 46, 0), (46, .lload_n 1, 47, 0), (47, .iload_n 3, 48, 0), (48, .invokevirtual 116, 51, 0), (51, .aload 10, 53, 0), (53, .lload 4, 55, 0), (55, .invokestatic 122, 58, 0), (58, .aload 10, 60, 0), (60, .lload 6, 62, 0), (62, .invokestatic 122, 65, 0), (65, .aload 10, 67, 0), (67, .lload 8, 69, 0), (69, .invokestatic 122, 72, 0), (72, .aload_n 0, 73, 0), (73, .getfield 20, 76, 0), (76, .aload_n 0, 77, 0), (77, .getfield 20, 80, 0), (80, .getfield 113, 83, 0), (83, .invokevirtual 126, 86, 0), (86, .istore 11, 88, 0), (88, .iload 11, 90, 0), (90, .bipush 12, 92, 0), (92, .if_icmp .ne 11, 95, 103), (95, .new 61, 98, 0), (98, .dup, 99, 0), (99, .invokespecial 63, 102, 0), (102, .athrow, 103, 0), (103, .iload 11, 105, 0), (105, .aload_n 0, 106, 0), (106, .getfield 20, 109, 0), (109, .getfield 113, 112, 0), (112, .if_icmp .ne 16, 115, 128), (115, .aload_n 0, 116, 0), (116, .getfield 20, 119, 0), (119, .dup, 120, 0), (120, .getfield 113, 123, 0), (123, .iconst 1, 124, 0), (124, .iadd, 125, 0), (125, .putfield 113, 128, 0), (128, .iload 11, 130, 0), (130, .ireturn, 131, 0)]
def mX8_traits : Mt := (yX8_traits, cX8_traits, 12, (some .int), 8, tX8_traits)
def tX8_object : List (Nat × Rw) := [(0, .iload_n 1, 1, 0), (1, .ifCond .lt 14, 4, 15), (4, .iload_n 1, 5, 0), (5, .aload_n 0, 6, 0), (6, .getfield 20, 9, 0), (9, .getfield 113, 12, 0), (12, .if_icmp .lt 11, 15, 23), (15, .new 89, 18, 0), (18, .dup, 19, 0), (19, .invokespecial 91, 22, 0), (22, .athrow, 23, 0), (23, .aload_n 0, 24, 0), (24, .invokevirtual 72, 27, 0), (27, .aload_n 0, 28, 0), (28, .getfield 20, 31, 0), (31, .bipush 10, 33, 0), (33, .invokevirtual 75, 36, 0), (36, .istore_n 2, 37, 0), (37, .aload_n 0, 38, 0), (38, .getfield 20, 41, 0), (41, .aload_n 0, 42, 0), (42, .getfield 20, 45, 0), (45, .getfield 79, 48, 0), (48, .iload_n 2, 49, 0), (49, .aaload, 50, 0), (50, .iload_n 1, 51, 0), (51, .invokevirtual 129, 54, 0), (54, .bipush 7, 56, 0), (56, .iload_n 2, 57, 0), (57, .i2l, 58, 0), (58, .invokestatic 68, 61, 0), (61, .lreturn, 62, 0)]
def mX8_object : Mt := (yX8_object, cX8_object, 3, (some .long), 8, tX8_object)
def tX8_kind : List (Nat × Rw) := [(0, .aload_n 0, 1, 0), (1, .getfield 20, 4, 0), (4, .iload_n 1, 5, 0), (5, .i2l, 6, 0), (6, .invokevirtual 210, 9, 0), (9, .ifCond .eq 18, 12, 27), (12, .aload_n 0, 13, 0), (13, .getfield 20, 16, 0), (16, .getfield 79, 19, 0), (19, .iload_n 1, 20, 0), (20, .aaload, 21, 0), (21, .getfield 213, 24, 0), (24, .goto 4, 27, 28), (27, .iconst (-1), 28, 0), (28, .ireturn, 29, 0)]
def mX8_kind : Mt := (yX8_kind, cX8_kind, 2, (some .int), 8, tX8_kind)
def tX8_append : List (Nat × Rw) := [(0, .aload_n 0, 1, 0), (1, .iload_n 1, 2, 0), (2, .invokevirtual 133, 5, 0), (5, .bipush 9, 7, 0), (7, .if_icmp .ne 14, 10, 21), (10, .aload_n 0, 11, 0), (11, .getfield 20, 14, 0), (14, .lload_n 2, 15, 0), (15, .invokevirtual 136, 18, 0), (18, .ifCond .ne 11, 21, 29), (21, .new 89, 24, 0), (24, .dup, 25, 0), (25, .invokespecial 91, 28, 0), (28, .athrow, 29, 0), (29, .aload_n 0, 30, 0), (30, .getfield 20, 33, 0), (33, .getfield 79, 36, 0), (36, .iload_n 1, 37, 0), (37, .aaload, 38, 0), (38, .getfield 92, 41, 0), (41, .astore 4, 43, 0), (43, .aload 4, 45, 0), (45, .invokevirtual 139, 48, 0), (48, .ifCond .eq 11, 51, 59), (51, .new 61, 54, 0), (54, .dup, 55, 0), (55, .invokespecial 63, 58, 0), (58, .athrow, 59, 0), (59, .aload 4, 61, 0), (61, .lload_n 2, 62, 0), (62, .invokevirtual 97, 65, 0), (65, .aload 4, 67, 0), (67, .getfield 143, 70, 0), (70, .ireturn, 71, 0)]
def mX8_append : Mt := (yX8_append, cX8_append, 5, (some .int), 8, tX8_append)
def tX8_hasItem : List (Nat × Rw) := [(0, .aload_n 0, 1, 0), (1, .iload_n 1, 2, 0), (2, .invokevirtual 133, 5, 0), (5, .istore_n 3, 6, 0), (6, .iload_n 3, 7, 0), (7, .bipush 9, 9, 0), (9, .if_icmp .eq 9, 12, 18), (12, .iload_n 3, 13, 0), (13, .bipush 10, 15, 0), (15, .if_icmp .ne 30, 18, 45), (18, .iload_n 2, 19, 0), (19, .ifCond .lt 26, 22, 45), (22, .iload_n 2, 23, 0), (23, .aload_n 0, 24, 0), (24, .getfield 20, 27, 0), (27, .getfield 79, 30, 0), (30, .iload_n 1, 31, 0), (31, .aaload, 32, 0), (32, .getfield 92, 35, 0), (35, .getfield 143, 38, 0), (38, .if_icmp .ge 7, 41, 45), (41, .iconst 1, 42, 0), (42, .goto 4, 45, 46), (45, .iconst 0, 46, 0), (46, .ireturn, 47, 0)]
def mX8_hasItem : Mt := (yX8_hasItem, cX8_hasItem, 4, (some .boolean), 8, tX8_hasItem)
def tX8_set : List (Nat × Rw) := [(0, .aload_n 0, 1, 0), (1, .iload_n 1, 2, 0), (2, .iload_n 2, 3, 0), (3, .invokevirtual 146, 6, 0), (6, .ifCond .eq 14, 9, 20), (9, .aload_n 0, 10, 0), (10, .getfield 20, 13, 0), (13, .lload_n 3, 14, 0), (14, .invokevirtual 136, 17, 0), (17, .ifCond .ne 11, 20, 28), (20, .new 89, 23, 0), (23, .dup, 24, 0), (24, .invokespecial 91, 27, 0), (27, .athrow, 28, 0), (28, .aload_n 0, 29, 0), (29, .getfield 20, 32, 0), (32, .getfield 79, 35, 0), (35, .iload_n 1, 36, 0), (36, .aaload, 37, 0), (37, .getfield 92, 40, 0), (40, .iload_n 2, 41, 0), (41, .lload_n 3, 42, 0), (42, .invokevirtual 150, 45, 0), (45, .return_, 46, 0)]
def mX8_set : Mt := (yX8_set, cX8_set, 5, none, 8, tX8_set)
def tX8_canHaveKey : List (Nat × Rw) := [(0, .aload_n 0, 1, 0), (1, .getfield 20, 4, 0), (4, .iload_n 1, 5, 0), (5, .i2l, 6, 0), (6, .invokevirtual 210, 9, 0), (9, .ifCond .eq 16, 12, 25), (12, .lload_n 2, 13, 0), (13, .invokestatic 101, 16, 0), (16, .ifCond .eq 9, 19, 25), (19, .lload_n 2, 20, 0), (20, .lconst 0, 21, 0), (21, .lcmp, 22, 0), (22, .ifCond .ne 5, 25, 27), (25, .iconst 0, 26, 0), (26, .ireturn, 27, 0), (27, .aload_n 0, 28, 0), (28, .getfield 20, 31, 0), (31, .getfield 79, 34, 0), (34, .iload_n 1, 35, 0), (35, .aaload, 36, 0), (36, .astore 4, 38, 0), (38, .aload_n 0, 39, 0), (39, .getfield 20, 42, 0), (42, .aload 4, 44, 0), (44, .invokevirtual 231, 47, 0), (47, .ifCond .eq 20, 50, 67), (50, .aload_n 0, 51, 0), (51, .getfield 20, 54, 0), (54, .aload 4, 56, 0), (56, .lload_n 2, 57, 0), (57, .invokevirtual 235, 60, 0), (60, .ifCond .ne 7, 63, 67), (63, .iconst 1, 64, 0), (64, .goto 4, 67, 68), (67, .iconst 0, 68, 0), (68, .ireturn, 69, 0)]
def mX8_canHaveKey : Mt := (yX8_canHaveKey, cX8_canHaveKey, 5, (some .boolean), 8, tX8_canHaveKey)
def tX8_put : List (Nat × Rw) := [(0, .aload_n 0, 1, 0), (1, .iload_n 1, 2, 0), (2, .lload_n 2, 3, 0), (3, .invokevirtual 154, 6, 0), (6, .ifCond .eq 15, 9, 21), (9, .aload_n 0, 10, 0), (10, .getfield 20, 13, 0), (13, .lload 4, 15, 0), (15, .invokevirtual 136, 18, 0), (18, .ifCond .ne 11, 21, 29), (21, .new 89, 24, 0), (24, .dup, 25, 0), (25, .invokespecial 91, 28, 0), (28, .athrow, 29, 0), (29, .aload_n 0, 30, 0), (30, .getfield 20, 33, 0), (33, .getfield 79, 36, 0), (36, .iload_n 1, 37, 0), (37, .aaload, 38, 0), (38, .astore 6, 40, 0), (40, .aload 6, 42, 0), (42, .getfield 158, 45, 0), (45, .lload_n 2, 46, 0), (46, .invokevirtual 161, 49, 0), (49, .istore 7, 51, 0), (51, .iload 7, 53, 0), (53, .iconst (-1), 54, 0), (54, .if_icmp .ne 22, 57, 76), (57, .aload 6, 59, 0), (59, .getfield 158, 62, 0), (62, .invokevirtual 139, 65, 0), (65, .ifCond .eq 11, 68, 76), (68, .new 61, 71, 0), (71, .dup, 72, 0), (72, .invokespecial 63, 75, 0), (75, .athrow, 76, 0), (76, .iload 7, 78, 0), (78, .iconst (-1), 79, 0), (79, .if_icmp .ne 25, 82, 104), (82, .aload 6, 84, 0), (84, .getfield 158, 87, 0), (87, .lload_n 2, 88, 0), (88, .invokevirtual 97, 91, 0), (91, .aload 6, 93, 0), (93, .getfield 165, 96, 0), (96, .lload 4, 98, 0), (98, .invokevirtual 97, 101, 0), (101, .goto 15, 104, 116), (104, .aload 6, 106, 0), (106, .getfield 165, 109, 0), (109, .iload 7, 111, 0), (111, .lload 4, 113, 0), (113, .invokevirtual 150, 116, 0), (116, .aload 6, 118, 0), (118, .getfield 158, 121, 0), (121, .getfield 143, 124, 0), (124, .ireturn, 125, 0)]
def mX8_put : Mt := (yX8_put, cX8_put, 8, (some .int), 8, tX8_put)
def tX8_allow : List (Nat × Rw) := [(0, .lload_n 1, 1, 0), (1, .invokestatic 101, 4, 0), (4, .ifCond .eq 30, 7, 34), (7, .lload_n 1, 8, 0), (8, .lconst 0, 9, 0), (9, .lcmp, 10, 0), (10, .ifCond .eq 24, 13, 34), (13, .aload_n 0, 14, 0), (14, .getfield 28, 17, 0), (17, .lload_n 1, 18, 0), (18, .invokevirtual 168, 21, 0), (21, .ifCond .ne 13, 24, 34), (24, .aload_n 0, 25, 0), (25, .getfield 28, 28, 0), (28, .invokevirtual 139, 31, 0), (31, .ifCond .eq 5, 34, 36), (34, .iconst 0, 35, 0), (35, .ireturn, 36, 0), (36, .aload_n 0, 37, 0), (37, .getfield 28, 40, 0), (40, .lload_n 1, 41, 0), (41, .invokevirtual 97, 44, 0), (44, .iconst 1, 45, 0), (45, .ireturn, 46, 0)]
def mX8_allow : Mt := (yX8_allow, cX8_allow, 3, (some .boolean), 8, tX8_allow)
def tX8_encode : List (Nat × Rw) := [(0, .aload_n 0, 1, 0), (1, .getfield 20, 4, 0), (4, .lload_n 1, 5, 0), (5, .invokevirtual 136, 8, 0), (8, .ifCond .ne 11, 11, 19), (11, .new 89, 14, 0), (14, .dup, 15, 0), (15, .invokespecial 91, 18, 0), (18, .athrow, 19, 0), (19, .aload_n 0, 20, 0), (20, .getfield 37, 23, 0), (23, .invokevirtual 171, 26, 0), (26, .aload_n 0, 27, 0), (27, .getfield 37, 30, 0), (30, .lload_n 1, 31, 0), (31, .iconst 0, 32, 0), (32, .invokevirtual 174, 35, 0), (35, .aload_n 0, 36, 0), (36, .getfield 24, 39, 0), (39, .aload_n 0, 40, 0), (40, .getfield 37, 43, 0), (43, .getfield 178, 46, 0), (46, .aload_n 0, 47, 0), (47, .getfield 37, 50, 0), (50, .getfield 182, 53, 0), (53, .invokevirtual 183, 56, 0), (56, .aload_n 0, 57, 0), (57, .getfield 24, 60, 0), (60, .getfield 186, 63, 0), (63, .ireturn, 64, 0)]
def mX8_encode : Mt := (yX8_encode, cX8_encode, 3, (some .int), 8, tX8_encode)
def tX8_decode : List (Nat × Rw) := [(0, .aload_n 0, 1, 0), (1, .getfield 46, 4, 0), (4, .invokevirtual 187, 7, 0), (7, .aload_n 0, 8, 0), (8, .getfield 46, 11, 0), (11, .iconst 0, 12, 0), (12, .invokevirtual 188, 15, 0), (15, .lstore_n 1, 16, 0), (16, .aload_n 0, 17, 0), (17, .getfield 46, 20, 0), (20, .invokevirtual 192, 23, 0), (23, .lload_n 1, 24, 0), (24, .lreturn, 25, 0)]
def mX8_decode : Mt := (yX8_decode, cX8_decode, 3, (some .long), 8, tX8_decode)
def tX8_fault : List (Nat × Rw) := [(0, .aload_n 0, 1, 0), (1, .getfield 46, 4, 0), (4, .getfield 195, 7, 0), (7, .ireturn, 8, 0)]
def mX8_fault : Mt := (yX8_fault, cX8_fault, 1, (some .int), 8, tX8_fault)
def tX8_size : List (Nat × Rw) := [(0, .aload_n 0, 1, 0), (1, .getfield 24, 4, 0), (4, .getfield 186, 7, 0), (7, .ireturn, 8, 0)]
def mX8_size : Mt := (yX8_size, cX8_size, 1, (some .int), 8, tX8_size)
def tX8_byteAt : List (Nat × Rw) := [(0, .iload_n 1, 1, 0), (1, .ifCond .lt 26, 4, 27), (4, .iload_n 1, 5, 0), (5, .aload_n 0, 6, 0), (6, .getfield 24, 9, 0), (9, .getfield 186, 12, 0), (12, .if_icmp .ge 15, 15, 27), (15, .aload_n 0, 16, 0), (16, .getfield 24, 19, 0), (19, .getfield 198, 22, 0), (22, .iload_n 1, 23, 0), (23, .iaload, 24, 0), (24, .goto 4, 27, 28), (27, .iconst (-1), 28, 0), (28, .ireturn, 29, 0)]
def mX8_byteAt : Mt := (yX8_byteAt, cX8_byteAt, 2, (some .int), 8, tX8_byteAt)
def tX8_alter : List (Nat × Rw) := [(0, .iload_n 1, 1, 0), (1, .ifCond .lt 32, 4, 33), (4, .iload_n 1, 5, 0), (5, .aload_n 0, 6, 0), (6, .getfield 24, 9, 0), (9, .getfield 186, 12, 0), (12, .if_icmp .gt 21, 15, 33), (15, .iload_n 1, 16, 0), (16, .sipush 600, 19, 0), (19, .if_icmp .eq 14, 22, 33), (22, .iload_n 2, 23, 0), (23, .ifCond .lt 10, 26, 33), (26, .iload_n 2, 27, 0), (27, .sipush 255, 30, 0), (30, .if_icmp .le 5, 33, 35), (33, .iconst 0, 34, 0), (34, .ireturn, 35, 0), (35, .aload_n 0, 36, 0), (36, .getfield 24, 39, 0), (39, .getfield 198, 42, 0), (42, .iload_n 1, 43, 0), (43, .iload_n 2, 44, 0), (44, .iastore, 45, 0), (45, .aload_n 0, 46, 0), (46, .getfield 24, 49, 0), (49, .aload_n 0, 50, 0), (50, .getfield 24, 53, 0), (53, .getfield 186, 56, 0), (56, .iload_n 1, 57, 0), (57, .iconst 1, 58, 0), (58, .iadd, 59, 0), (59, .invokestatic 201, 62, 0), (62, .putfield 186, 65, 0), (65, .iconst 1, 66, 0), (66, .ireturn, 67, 0)]
def mX8_alter : Mt := (yX8_alter, cX8_alter, 3, (some .boolean), 8, tX8_alter)
def tX8_cut : List (Nat × Rw) := [(0, .iload_n 1, 1, 0), (1, .ifCond .lt 14, 4, 15), (4, .iload_n 1, 5, 0), (5, .aload_n 0, 6, 0), (6, .getfield 24, 9, 0), (9, .getfield 186, 12, 0), (12, .if_icmp .le 5, 15, 17), (15, .iconst 0, 16, 0), (16, .ireturn, 17, 0), (17, .aload_n 0, 18, 0), (18, .getfield 24, 21, 0), (21, .iload_n 1, 22, 0), (22, .putfield 186, 25, 0), (25, .iconst 1, 26, 0), (26, .ireturn, 27, 0)]
def mX8_cut : Mt := (yX8_cut, cX8_cut, 2, (some .boolean), 8, tX8_cut)
def tX8_things : List (Nat × Rw) := [(0, .aload_n 0, 1, 0), (1, .getfield 20, 4, 0), (4, .getfield 207, 7, 0), (7, .ireturn, 8, 0)]
def mX8_things : Mt := (yX8_things, cX8_things, 1, (some .int), 8, tX8_things)
def tX8_count : List (Nat × Rw) := [(0, .aload_n 0, 1, 0), (1, .getfield 20, 4, 0), (4, .iload_n 1, 5, 0), (5, .i2l, 6, 0), (6, .invokevirtual 210, 9, 0), (9, .ifCond .eq 21, 12, 30), (12, .aload_n 0, 13, 0), (13, .getfield 20, 16, 0), (16, .getfield 79, 19, 0), (19, .iload_n 1, 20, 0), (20, .aaload, 21, 0), (21, .getfield 92, 24, 0), (24, .getfield 143, 27, 0), (27, .goto 4, 30, 31), (30, .iconst (-1), 31, 0), (31, .ireturn, 32, 0)]
def mX8_count : Mt := (yX8_count, cX8_count, 2, (some .int), 8, tX8_count)
def tX8_item : List (Nat × Rw) := [(0, .aload_n 0, 1, 0), (1, .getfield 20, 4, 0), (4, .iload_n 1, 5, 0), (5, .i2l, 6, 0), (6, .invokevirtual 210, 9, 0), (9, .ifCond .ne 7, 12, 16), (12, .ldc2_w 215, 15, 0), (15, .lreturn, 16, 0), (16, .aload_n 0, 17, 0), (17, .getfield 20, 20, 0), (20, .getfield 79, 23, 0), (23, .iload_n 1, 24, 0), (24, .aaload, 25, 0), (25, .astore_n 3, 26, 0), (26, .aload_n 3, 27, 0), (27, .getfield 213, 30, 0), (30, .bipush 8, 32, 0), (32, .if_icmp .ne 14, 35, 46), (35, .iload_n 2, 36, 0), (36, .ifCond .ne 10, 39, 46), (39, .aload_n 3, 40, 0), (40, .getfield 83, 43, 0), (43, .goto 11, 46, 54), (46, .aload_n 3, 47, 0), (47, .getfield 92, 50, 0), (50, .iload_n 2, 51, 0), (51, .invokevirtual 217, 54, 0), (54, .lreturn, 55, 0)]
def mX8_item : Mt := (yX8_item, cX8_item, 4, (some .long), 8, tX8_item)
def tX8_pairs : List (Nat × Rw) := [(0, .aload_n 0, 1, 0), (1, .getfield 20, 4, 0), (4, .iload_n 1, 5, 0), (5, .i2l, 6, 0), (6, .invokevirtual 210, 9, 0), (9, .ifCond .eq 21, 12, 30), (12, .aload_n 0, 13, 0), (13, .getfield 20, 16, 0), (16, .getfield 79, 19, 0), (19, .iload_n 1, 20, 0), (20, .aaload, 21, 0), (21, .getfield 158, 24, 0), (24, .getfield 143, 27, 0), (27, .goto 4, 30, 31), (30, .iconst 0, 31, 0), (31, .ireturn, 32, 0)]
def mX8_pairs : Mt := (yX8_pairs, cX8_pairs, 2, (some .int), 8, tX8_pairs)
def tX8_pair : List (Nat × Rw) := [(0, .aload_n 0, 1, 0), (1, .getfield 20, 4, 0), (4, .iload_n 1, 5, 0), (5, .i2l, 6, 0), (6, .invokevirtual 210, 9, 0), (9, .ifCond .ne 7, 12, 16), (12, .ldc2_w 215, 15, 0), (15, .lreturn, 16, 0), (16, .aload_n 0, 17, 0), (17, .getfield 20, 20, 0), (20, .getfield 79, 23, 0), (23, .iload_n 1, 24, 0), (24, .aaload, 25, 0), (25, .astore 4, 27, 0), (27, .iload_n 3, 28, 0), (28, .ifCond .eq 15, 31, 43), (31, .aload 4, 33, 0), (33, .getfield 158, 36, 0), (36, .iload_n 2, 37, 0), (37, .invokevirtual 217, 40, 0), (40, .goto 12, 43, 52), (43, .aload 4, 45, 0), (45, .getfield 165, 48, 0), (48, .iload_n 2, 49, 0), (49, .invokevirtual 217, 52, 0), (52, .lreturn, 53, 0)]
def mX8_pair : Mt := (yX8_pair, cX8_pair, 5, (some .long), 8, tX8_pair)
def tX8_traitsOf : List (Nat × Rw) := [(0, .aload_n 0, 1, 0), (1, .getfield 20, 4, 0), (4, .iload_n 1, 5, 0), (5, .i2l, 6, 0), (6, .invokevirtual 210, 9, 0), (9, .ifCond .eq 18, 12, 27), (12, .aload_n 0, 13, 0), (13, .getfield 20, 16, 0), (16, .getfield 79, 19, 0), (19, .iload_n 1, 20, 0), (20, .aaload, 21, 0), (21, .getfield 220, 24, 0), (24, .goto 4, 27, 28), (27, .iconst (-1), 28, 0), (28, .ireturn, 29, 0)]
def mX8_traitsOf : Mt := (yX8_traitsOf, cX8_traitsOf, 2, (some .int), 8, tX8_traitsOf)
def tX8_bits : List (Nat × Rw) := [(0, .iload_n 1, 1, 0), (1, .ifCond .lt 26, 4, 27), (4, .iload_n 1, 5, 0), (5, .aload_n 0, 6, 0), (6, .getfield 20, 9, 0), (9, .getfield 57, 12, 0), (12, .if_icmp .ge 15, 15, 27), (15, .aload_n 0, 16, 0), (16, .getfield 20, 19, 0), (19, .getfield 64, 22, 0), (22, .iload_n 1, 23, 0), (23, .laload, 24, 0), (24, .goto 4, 27, 28), (27, .lconst 0, 28, 0), (28, .lreturn, 29, 0)]
def mX8_bits : Mt := (yX8_bits, cX8_bits, 2, (some .long), 8, tX8_bits)
def tX8_same : List (Nat × Rw) := [(0, .aload_n 0, 1, 0), (1, .getfield 20, 4, 0), (4, .lload_n 1, 5, 0), (5, .invokevirtual 136, 8, 0), (8, .ifCond .eq 14, 11, 22), (11, .aload_n 0, 12, 0), (12, .getfield 20, 15, 0), (15, .lload_n 3, 16, 0), (16, .invokevirtual 136, 19, 0), (19, .ifCond .ne 5, 22, 24), (22, .iconst 0, 23, 0), (23, .ireturn, 24, 0), (24, .aload_n 0, 25, 0), (25, .getfield 53, 28, 0), (28, .invokevirtual 222, 31, 0), (31, .aload_n 0, 32, 0), (32, .getfield 53, 35, 0), (35, .lload_n 1, 36, 0), (36, .lload_n 3, 37, 0), (37, .invokevirtual 223, 40, 0), (40, .ireturn, 41, 0)]
def mX8_same : Mt := (yX8_same, cX8_same, 5, (some .boolean), 8, tX8_same)
def tX8_clear : List (Nat × Rw) := [(0, .aload_n 0, 1, 0), (1, .getfield 20, 4, 0), (4, .iconst 0, 5, 0), (5, .iconst 0, 6, 0), (6, .iconst 0, 7, 0), (7, .invokevirtual 227, 10, 0), (10, .return_, 11, 0)]
def mX8_clear : Mt := (yX8_clear, cX8_clear, 1, none, 8, tX8_clear)
def tX7_init : List (Nat × Rw) := [(0, .aload_n 0, 1, 0), (1, .invokespecial 3, 4, 0), (4, .aload_n 0, 5, 0), (5, .new 9, 8, 0), (8, .dup, 9, 0), (9, .sipush 300, 12, 0), (12, .invokespecial 11, 15, 0), (15, .putfield 14, 18, 0), (18, .aload_n 0, 19, 0), (19, .new 9, 22, 0), (22, .dup, 23, 0), (23, .bipush 40, 25, 0), (25, .invokespecial 11, 28, 0), (28, .putfield 20, 31, 0), (31, .aload_n 0, 32, 0), (32, .new 9, 35, 0), (35, .dup, 36, 0), (36, .bipush 12, 38, 0), (38, .invokespecial 11, 41, 0), (41, .putfield 23, 44, 0), (44, .aload_n 0, 45, 0), (45, .sipush 600, 48, 0), (48, .newarray .int, 50, 0), (50, .putfield 26, 53, 0), (53, .aload_n 0, 54, 0), (54, .aload_n 1, 55, 0), (55, .putfield 30, 58, 0), (58, .return_, 59, 0)]
def mX7_init : Mt := (yX7_init, cX7_init, 2, none, 7, tX7_init)
def tX7_start : List (Nat × Rw) := [(0, .aload_n 0, 1, 0), (1, .getfield 14, 4, 0), (4, .invokevirtual 34, 7, 0), (7, .aload_n 0, 8, 0), (8, .getfield 20, 11, 0), (11, .invokevirtual 34, 14, 0), (14, .aload_n 0, 15, 0), (15, .getfield 23, 18, 0), (18, .invokevirtual 34, 21, 0), (21, .aload_n 0, 22, 0), (22, .iconst 0, 23, 0), (23, .putfield 37, 26, 0), (26, .return_, 27, 0)]
def mX7_start : Mt := (yX7_start, cX7_start, 1, none, 7, tX7_start)
def tX7_writeByte : List (Nat × Rw) := [(0, .aload_n 0, 1, 0), (1, .getfield 37, 4, 0), (4, .sipush 600, 7, 0), (7, .if_icmp .ne 11, 10, 18), (10, .new 84, 13, 0), (13, .dup, 14, 0), (14, .invokespecial 86, 17, 0), (17, .athrow, 18, 0), (18, .aload_n 0, 19, 0), (19, .getfield 26, 22, 0), (22, .aload_n 0, 23, 0), (23, .getfield 37, 26, 0), (26, .iload_n 1, 27, 0), (27, .iastore, 28, 0), (28, .aload_n 0, 29, 0), (29, .dup, 30, 0), (30, .getfield 37, 33, 0), (33, .iconst 1, 34, 0), (34, .iadd, 35, 0), (35, .putfield 37, 38, 0), (38, .return_, 39, 0)]
def mX7_writeByte : Mt := (yX7_writeByte, cX7_writeByte, 2, none, 7, tX7_writeByte)
def tX7_writeNumber : List (Nat × Rw) := [(0, .iload_n 1, 1, 0), (1, .ldc 155, 3, 0), (3, .if_icmp .lt 55, 6, 58), (6, .aload_n 0, 7, 0), (7, .sipush 128, 10, 0), (10, .iload_n 1, 11, 0), (11, .bipush 22, 13, 0), (13, .ishr, 14, 0), (14, .iadd, 15, 0), (15, .invokevirtual 53, 18, 0), (18, .aload_n 0, 19, 0), (19, .sipush 128, 22, 0), (22, .iload_n 1, 23, 0), (23, .bipush 15, 25, 0), (25, .ishr, 26, 0), (26, .bipush 127, 28, 0), (28, .iand, 29, 0), (29, .iadd, 30, 0), (30, .invokevirtual 53, 33, 0), (33, .aload_n 0, 34, 0), (34, .sipush 128, 37, 0), (37, .iload_n 1, 38, 0), (38, .bipush 8, 40, 0), (40, .ishr, 41, 0), (41, .bipush 127, 43, 0), (43, .iand, 44, 0), (44, .iadd, 45, 0), (45, .invokevirtual 53, 48, 0), (48, .aload_n 0, 49, 0), (49, .iload_n 1, 50, 0), (50, .sipush 255, 53, 0), (53, .iand, 54, 0), (54, .invokevirtual 53, 57, 0), (57, .return_, 58, 0), (58, .iload_n 1, 59, 0), (59, .sipush 16384, 62, 0), (62, .if_icmp .lt 15, 65, 77), (65, .aload_n 0, 66, 0), (66, .sipush 128, 69, 0), (69, .iload_n 1, 70, 0), (70, .bipush 14, 72, 0), (72, .ishr, 73, 0), (73, .iadd, 74, 0), (74, .invokevirtual 53, 77, 0), (77, .iload_n 1, 78, 0), (78, .sipush 128, 81, 0), (81, .if_icmp .lt 18, 84, 99), (84, .aload_n 0, 85, 0), (85, .sipush 128, 88, 0), (88, .iload_n 1, 89, 0), (89, .bipush 7, 91, 0), (91, .ishr, 92, 0), (92, .bipush 127, 94, 0), (94, .iand, 95, 0), (95, .iadd, 96, 0), (96, .invokevirtual 53, 99, 0), (99, .aload_n 0, 100, 0), (100, .iload_n 1, 101, 0), (101, .bipush 127, 103, 0), (103, .iand, 104, 0), (104, .invokevirtual 53, 107, 0), (107, .return_, 108, 0)]
def mX7_writeNumber : Mt := (yX7_writeNumber, cX7_writeNumber, 2, none, 7, tX7_writeNumber)
def tX7_writeString : List (Nat × Rw) := [(0, .aload_n 0, 1, 0), (1, .getfield 14, 4, 0), (4, .lload_n 1, 5, 0), (5, .invokevirtual 81, 8, 0), (8, .istore_n 3, 9, 0), (9, .iload_n 3, 10, 0), (10, .iconst (-1), 11, 0), (11, .if_icmp .eq 11, 14, 22), (14, .aload_n 0, 15, 0), (15, .iconst 2, 16, 0), (16, .iload_n 3, 17, 0), (17, .imul, 18, 0), (18, .invokevirtual 57, 21, 0), (21, .return_, 22, 0), (22, .lload_n 1, 23, 0), (23, .invokestatic 150, 26, 0), (26, .istore 4, 28, 0), (28, .aload_n 0, 29, 0), (29, .iconst 2, 30, 0), (30, .iload 4, 32, 0), (32, .imul, 33, 0), (33, .iconst 1, 34, 0), (34, .iadd, 35, 0), (35, .invokevirtual 57, 38, 0), (38, .iconst 0, 39, 0), (39, .istore 5, 41, 0), (41, .iload 5, 43, 0), (43, .iload 4, 45, 0), (45, .if_icmp .ge 25, 48, 70), (48, .aload_n 0, 49, 0), (49, .lload_n 1, 50, 0), (50, .bipush 8, 52, 0), (52, .iload 5, 54, 0), (54, .imul, 55, 0), (55, .lshr, 56, 0), (56, .ldc2_w 153, 59, 0), (59, .land, 60, 0), (60, .l2i, 61, 0), (61, .invokevirtual 53, 64, 0), (64, .iinc 5 1, 67, 0), (67, .goto (-26), 70, 41), (70, .lload_n 1, 71, 0), (71, .lconst 0, 72, 0), (72, .lcmp, 73, 0), (73, .ifCond .eq 11, 76, 84), (76, .aload_n 0, 77, 0), (77, .getfield 14, 80, 0), (80, .lload_n 1, 81, 0), (81, .invokevirtual 87, 84, 0), (84, .return_, 85, 0)]
def mX7_writeString : Mt := (yX7_writeString, cX7_writeString, 6, none, 7, tX7_writeString)
def tX7_writeTraits : List (Nat × Rw) := [(0, .aload_n 0, 1, 0), (1, .getfield 23, 4, 0), (4, .iload_n 1, 5, 0), (5, .i2l, 6, 0), (6, .invokevirtual 81, 9, 0), (9, .istore_n 2, 10, 0), (10, .iload_n 2, 11, 0), (11, .iconst (-1), 12, 0), (12, .if_icmp .eq 13, 15, 25), (15, .aload_n 0, 16, 0), (16, .iconst 4, 17, 0), (17, .iload_n 2, 18, 0), (18, .imul, 19, 0), (19, .iconst 1, 20, 0), (20, .iadd, 21, 0), (21, .invokevirtual 57, 24, 0), (24, .return_, 25, 0), (25, .aload_n 0, 26, 0), (26, .getfield 23, 29, 0), (29, .iload_n 1, 30, 0), (30, .i2l, 31, 0), (31, .invokevirtual 87, 34, 0), (34, .aload_n 0, 35, 0), (35, .getfield 30, 38, 0), (38, .getfield 125, 41, 0), (41, .iload_n 1, 42, 0), (42, .aaload, 43, 0), (43, .astore_n 3, 44, 0), (44, .aload_n 0, 45, 0), (45, .bipush 16, 47, 0), (47, .aload_n 3, 48, 0), (48, .getfield 128, 51, 0), (51, .getfield 101, 54, 0), (54, .imul, 55, 0), (55, .aload_n 3, 56, 0), (56, .getfield 133, 59, 0), (59, .ifCond .eq 8, 62, 67), (62, .bipush 8, 64, 0), (64, .goto 4, 67, 68), (67, .iconst 0, 68, 0), (68, .iadd, 69, 0), (69, .iconst 3, 70, 0), (70, .iadd, 71, 0), (71, .invokevirtual 57, 74, 0), (74, .aload_n 0, 75, 0), (75, .aload_n 3, 76, 0), (76, .getfield 137, 79, 0), (79, .invokevirtual 70, 82, 0), (82, .iconst 0, 83, 0), (83, .istore 4, 85, 0), (85, .iload 4, 87, 0), (87, .aload_n 3, 88, 0), (88, .getfield 128, 91, 0), (91, .getfield 101, 94, 0), (94, .if_icmp .ge 22, 97, 116), (97, .aload_n 0, 98, 0), (98, .aload_n 3, 99, 0), (99, .getfield 128, 102, 0), (102, .iload 4, 104, 0), (104, .invokevirtual 112, 107, 0), (107, .invokevirtual 70, 110, 0), (110, .iinc 4 1, 113, 0), (113, .goto (-28), 116, 85), (116, .return_, 117, 0)]
def mX7_writeTraits : Mt := (yX7_writeTraits, cX7_writeTraits, 5, none, 7, tX7_writeTraits)
def tX7_writeEight : List (Nat × Rw) := [(0, .bipush 56, 2, 0), (2, .istore_n 3, 3, 0), (3, .iload_n 3, 4, 0), (4, .ifCond .lt 21, 7, 25), (7, .aload_n 0, 8, 0), (8, .lload_n 1, 9, 0), (9, .iload_n 3, 10, 0), (10, .lshr, 11, 0), (11, .ldc2_w 153, 14, 0), (14, .land, 15, 0), (15, .l2i, 16, 0), (16, .invokevirtual 53, 19, 0), (19, .iinc 3 (-8), 22, 0), (22, .goto (-19), 25, 3), (25, .return_, 26, 0)]
def mX7_writeEight : Mt := (yX7_writeEight, cX7_writeEight, 4, none, 7, tX7_writeEight)
def tX7_writeBytes : List (Nat × Rw) := [(0, .aload_n 0, 1, 0), (1, .iconst 2, 2, 0), (2, .aload_n 1, 3, 0), (3, .getfield 101, 6, 0), (6, .imul, 7, 0), (7, .iconst 1, 8, 0), (8, .iadd, 9, 0), (9, .invokevirtual 57, 12, 0), (12, .iconst 0, 13, 0), (13, .istore_n 2, 14, 0), (14, .iload_n 2, 15, 0), (15, .aload_n 1, 16, 0), (16, .getfield 101, 19, 0), (19, .if_icmp .ge 22, 22, 41), (22, .aload_n 0, 23, 0), (23, .aload_n 1, 24, 0), (24, .iload_n 2, 25, 0), (25, .invokevirtual 112, 28, 0), (28, .invokestatic 45, 31, 0), (31, .l2i, 32, 0), (32, .invokevirtual 53, 35, 0), (35, .iinc 2 1, 38, 0), (38, .goto (-24), 41, 14), (41, .return_, 42, 0)]
def mX7_writeBytes : Mt := (yX7_writeBytes, cX7_writeBytes, 3, none, 7, tX7_writeBytes)
def tX7_writeItems : List (Nat × Rw) := [(0, .iconst 0, 1, 0), (1, .istore_n 3, 2, 0), (2, .iload_n 3, 3, 0), (3, .aload_n 1, 4, 0), (4, .getfield 94, 7, 0), (7, .getfield 101, 10, 0), (10, .if_icmp .ge 22, 13, 32), (13, .aload_n 0, 14, 0), (14, .aload_n 1, 15, 0), (15, .getfield 94, 18, 0), (18, .iload_n 3, 19, 0), (19, .invokevirtual 112, 22, 0), (22, .iload_n 2, 23, 0), (23, .invokevirtual 140, 26, 0), (26, .iinc 3 1, 29, 0), (29, .goto (-27), 32, 2), (32, .return_, 33, 0)]
def mX7_writeItems : Mt := (yX7_writeItems, cX7_writeItems, 4, none, 7, tX7_writeItems)
def tX7_writeObject : List (Nat × Rw) := [(0, .aload_n 0, 1, 0), (1, .aload_n 1, 2, 0), (2, .getfield 116, 5, 0), (5, .invokevirtual 118, 8, 0), (8, .aload_n 0, 9, 0), (9, .aload_n 1, 10, 0), (10, .iload_n 2, 11, 0), (11, .invokevirtual 106, 14, 0), (14, .aload_n 0, 15, 0), (15, .getfield 30, 18, 0), (18, .aload_n 1, 19, 0), (19, .invokevirtual 121, 22, 0), (22, .ifCond .eq 9, 25, 31), (25, .aload_n 0, 26, 0), (26, .aload_n 1, 27, 0), (27, .iload_n 2, 28, 0), (28, .invokevirtual 102, 31, 0), (31, .return_, 32, 0)]
def mX7_writeObject : Mt := (yX7_writeObject, cX7_writeObject, 3, none, 7, tX7_writeObject)
def tX7_writePairs : List (Nat × Rw) := [(0, .iconst 0, 1, 0), (1, .istore_n 3, 2, 0), (2, .iload_n 3, 3, 0), (3, .aload_n 1, 4, 0), (4, .getfield 144, 7, 0), (7, .getfield 101, 10, 0), (10, .if_icmp .ge 34, 13, 44), (13, .aload_n 0, 14, 0), (14, .aload_n 1, 15, 0), (15, .getfield 144, 18, 0), (18, .iload_n 3, 19, 0), (19, .invokevirtual 112, 22, 0), (22, .invokevirtual 70, 25, 0), (25, .aload_n 0, 26, 0), (26, .aload_n 1, 27, 0), (27, .getfield 147, 30, 0), (30, .iload_n 3, 31, 0), (31, .invokevirtual 112, 34, 0), (34, .iload_n 2, 35, 0), (35, .invokevirtual 140, 38, 0), (38, .iinc 3 1, 41, 0), (41, .goto (-39), 44, 2), (44, .aload_n 0, 45, 0), (45, .lconst 0, 46, 0), (46, .invokevirtual 70, 49, 0), (49, .return_, 50, 0)]
def mX7_writePairs : Mt := (yX7_writePairs, cX7_writePairs, 4, none, 7, tX7_writePairs)
def tX7_writeThing : List (Nat × Rw) := [(0, .aload_n 0, 1, 0), (1, .getfield 30, 4, 0), (4, .getfield 73, 7, 0), (7, .iload_n 1, 8, 0), (8, .aaload, 9, 0), (9, .astore_n 3, 10, 0), (10, .aload_n 0, 11, 0), (11, .aload_n 3, 12, 0), (12, .getfield 76, 15, 0), (15, .invokevirtual 53, 18, 0), (18, .aload_n 0, 19, 0), (19, .getfield 20, 22, 0), (22, .iload_n 1, 23, 0), (23, .i2l, 24, 0), (24, .invokevirtual 81, 27, 0), (27, .istore 4, 29, 0), (29, .iload 4, 31, 0), (31, .iconst (-1), 32, 0), (32, .if_icmp .eq 12, 35, 44), (35, .aload_n 0, 36, 0), (36, .iconst 2, 37, 0), (37, .iload 4, 39, 0), (39, .imul, 40, 0), (40, .invokevirtual 57, 43, 0), (43, .return_, 44, 0), (44, .iload_n 2, 45, 0), (45, .bipush 12, 47, 0), (47, .if_icmp .ne 11, 50, 58), (50, .new 84, 53, 0), (53, .dup, 54, 0), (54, .invokespecial 86, 57, 0), (57, .athrow, 58, 0), (58, .aload_n 0, 59, 0), (59, .getfield 20, 62, 0), (62, .iload_n 1, 63, 0), (63, .i2l, 64, 0), (64, .invokevirtual 87, 67, 0), (67, .aload_n 3, 68, 0), (68, .getfield 76, 71, 0), (71, .tableswitch 94 8 12 #[33, 60, 94, 94, 49], 104, 0), (104, .aload_n 0, 105, 0), (105, .iconst 1, 106, 0), (106, .invokevirtual 57, 109, 0), (109, .aload_n 0, 110, 0), (110, .aload_n 3, 111, 0), (111, .getfield 90, 114, 0), (114, .invokevirtual 66, 117, 0), (117, .goto 56, 120, 173), (120, .aload_n 0, 121, 0), (121, .aload_n 3, 122, 0), (122, .getfield 94, 125, 0), (125, .invokevirtual 97, 128, 0), (128, .goto 45, 131, 173), (131, .aload_n 0, 132, 0), (132, .iconst 2, 133, 0), (133, .aload_n 3, 134, 0), (134, .getfield 94, 137, 0), (137, .getfield 101, 140, 0), (140, .imul, 141, 0), (141, .iconst 1, 142, 0), (142, .iadd, 143, 0), (143, .invokevirtual 57, 146, 0), (146, .aload_n 0, 147, 0), (147, .aload_n 3, 148, 0), (148, .iload_n 2, 149, 0), (149, .iconst 1, 150, 0), (150, .iadd, 151, 0), (151, .invokevirtual 102, 154, 0), (154, .aload_n 0, 155, 0), (155, .aload_n 3, 156, 0), (156, .iload_n 2, 157, 0), (157, .iconst 1, 158, 0), (158, .iadd, 159, 0), (159, .invokevirtual 106, 162, 0), (162, .goto 11, 165, 173), (165, .aload_n 0, 166, 0), (166, .aload_n 3, 167, 0), (167, .iload_n 2, 168, 0), (168, .iconst 1, 169, 0), (169, .iadd, 170, 0), (170, .invokevirtual 109, 173, 0), (173, .return_, 174, 0)]
def mX7_writeThing : Mt := (yX7_writeThing, cX7_writeThing, 5, none, 7, tX7_writeThing)
def tX7_writeValue : List (Nat × Rw) := [(0, .lload_n 1, 1, 0), (1, .invokestatic 41, 4, 0), (4, .istore 4, 6, 0), (6, .lload_n 1, 7, 0), (7, .invokestatic 45, 10, 0), (10, .lstore 5, 12, 0), (12, .iload 4, 14, 0), (14, .bipush 7, 16, 0), (16, .if_icmp .ne 12, 19, 28), (19, .aload_n 0, 20, 0), (20, .lload 5, 22, 0), (22, .l2i, 23, 0), (23, .iload_n 3, 24, 0), (24, .invokevirtual 49, 27, 0), (27, .return_, 28, 0), (28, .aload_n 0, 29, 0), (29, .iload 4, 31, 0), (31, .invokevirtual 53, 34, 0), (34, .iload 4, 36, 0), (36, .iconst 4, 37, 0), (37, .if_icmp .ne 16, 40, 53), (40, .aload_n 0, 41, 0), (41, .lload 5, 43, 0), (43, .l2i, 44, 0), (44, .ldc 56, 46, 0), (46, .iand, 47, 0), (47, .invokevirtual 57, 50, 0), (50, .goto 40, 53, 90), (53, .iload 4, 55, 0), (55, .iconst 5, 56, 0), (56, .if_icmp .ne 21, 59, 77), (59, .aload_n 0, 60, 0), (60, .aload_n 0, 61, 0), (61, .getfield 30, 64, 0), (64, .getfield 60, 67, 0), (67, .lload 5, 69, 0), (69, .l2i, 70, 0), (70, .laload, 71, 0), (71, .invokevirtual 66, 74, 0), (74, .goto 16, 77, 90), (77, .iload 4, 79, 0), (79, .bipush 6, 81, 0), (81, .if_icmp .ne 9, 84, 90), (84, .aload_n 0, 85, 0), (85, .lload 5, 87, 0), (87, .invokevirtual 70, 90, 0), (90, .return_, 91, 0)]
def mX7_writeValue : Mt := (yX7_writeValue, cX7_writeValue, 7, none, 7, tX7_writeValue)
def tX2_init : List (Nat × Rw) := [(0, .aload_n 0, 1, 0), (1, .invokespecial 3, 4, 0), (4, .aload_n 0, 5, 0), (5, .new 9, 8, 0), (8, .dup, 9, 0), (9, .sipush 300, 12, 0), (12, .invokespecial 11, 15, 0), (15, .putfield 14, 18, 0), (18, .aload_n 0, 19, 0), (19, .new 9, 22, 0), (22, .dup, 23, 0), (23, .bipush 40, 25, 0), (25, .invokespecial 11, 28, 0), (28, .putfield 20, 31, 0), (31, .aload_n 0, 32, 0), (32, .new 9, 35, 0), (35, .dup, 36, 0), (36, .bipush 40, 38, 0), (38, .invokespecial 11, 41, 0), (41, .putfield 23, 44, 0), (44, .aload_n 0, 45, 0), (45, .iconst (-1), 46, 0), (46, .putfield 26, 49, 0), (49, .aload_n 0, 50, 0), (50, .aload_n 1, 51, 0), (51, .putfield 30, 54, 0), (54, .aload_n 0, 55, 0), (55, .aload_n 2, 56, 0), (56, .putfield 34, 59, 0), (59, .aload_n 0, 60, 0), (60, .aload_n 3, 61, 0), (61, .putfield 38, 64, 0), (64, .return_, 65, 0)]
def mX2_init : Mt := (yX2_init, cX2_init, 4, none, 2, tX2_init)
def tX2_start : List (Nat × Rw) := [(0, .aload_n 0, 1, 0), (1, .getfield 14, 4, 0), (4, .invokevirtual 41, 7, 0), (7, .aload_n 0, 8, 0), (8, .getfield 20, 11, 0), (11, .invokevirtual 41, 14, 0), (14, .aload_n 0, 15, 0), (15, .getfield 23, 18, 0), (18, .invokevirtual 41, 21, 0), (21, .aload_n 0, 22, 0), (22, .aload_n 0, 23, 0), (23, .getfield 30, 26, 0), (26, .getfield 44, 29, 0), (29, .putfield 49, 32, 0), (32, .aload_n 0, 33, 0), (33, .aload_n 0, 34, 0), (34, .getfield 30, 37, 0), (37, .getfield 50, 40, 0), (40, .putfield 53, 43, 0), (43, .aload_n 0, 44, 0), (44, .aload_n 0, 45, 0), (45, .getfield 30, 48, 0), (48, .getfield 54, 51, 0), (51, .putfield 57, 54, 0), (54, .aload_n 0, 55, 0), (55, .iconst 0, 56, 0), (56, .putfield 58, 59, 0), (59, .aload_n 0, 60, 0), (60, .iconst (-1), 61, 0), (61, .putfield 26, 64, 0), (64, .return_, 65, 0)]
def mX2_start : Mt := (yX2_start, cX2_start, 1, none, 2, tX2_start)
def tX2_keep : List (Nat × Rw) := [(0, .aload_n 0, 1, 0), (1, .getfield 30, 4, 0), (4, .aload_n 0, 5, 0), (5, .getfield 49, 8, 0), (8, .aload_n 0, 9, 0), (9, .getfield 53, 12, 0), (12, .aload_n 0, 13, 0), (13, .getfield 57, 16, 0), (16, .invokevirtual 61, 19, 0), (19, .return_, 20, 0)]
def mX2_keep : Mt := (yX2_keep, cX2_keep, 1, none, 2, tX2_keep)
def tX2_stopAt : List (Nat × Rw) := [(0, .aload_n 0, 1, 0), (1, .iload_n 1, 2, 0), (2, .putfield 26, 5, 0), (5, .new 213, 8, 0), (8, .dup, 9, 0), (9, .invokespecial 215, 12, 0), (12, .athrow, 13, 0)]
def mX2_stopAt : Mt := (yX2_stopAt, cX2_stopAt, 2, none, 2, tX2_stopAt)
def tX2_knownTraits : List (Nat × Rw) := [(0, .aload_n 0, 1, 0), (1, .getfield 23, 4, 0), (4, .iload_n 1, 5, 0), (5, .invokevirtual 132, 8, 0), (8, .lstore_n 3, 9, 0), (9, .lload_n 3, 10, 0), (10, .ldc2_w 134, 13, 0), (13, .lcmp, 14, 0), (14, .ifCond .ne 8, 17, 22), (17, .aload_n 0, 18, 0), (18, .iload_n 2, 19, 0), (19, .invokevirtual 88, 22, 0), (22, .lload_n 3, 23, 0), (23, .l2i, 24, 0), (24, .ireturn, 25, 0)]
def mX2_knownTraits : Mt := (yX2_knownTraits, cX2_knownTraits, 5, (some .int), 2, tX2_knownTraits)
def tX2_readByte : List (Nat × Rw) := [(0, .aload_n 0, 1, 0), (1, .getfield 58, 4, 0), (4, .aload_n 0, 5, 0), (5, .getfield 34, 8, 0), (8, .getfield 210, 11, 0), (11, .if_icmp .lt 22, 14, 33), (14, .aload_n 0, 15, 0), (15, .aload_n 0, 16, 0), (16, .getfield 34, 19, 0), (19, .getfield 210, 22, 0), (22, .putfield 26, 25, 0), (25, .new 213, 28, 0), (28, .dup, 29, 0), (29, .invokespecial 215, 32, 0), (32, .athrow, 33, 0), (33, .aload_n 0, 34, 0), (34, .dup, 35, 0), (35, .getfield 58, 38, 0), (38, .iconst 1, 39, 0), (39, .iadd, 40, 0), (40, .putfield 58, 43, 0), (43, .aload_n 0, 44, 0), (44, .getfield 34, 47, 0), (47, .getfield 216, 50, 0), (50, .aload_n 0, 51, 0), (51, .getfield 58, 54, 0), (54, .iconst 1, 55, 0), (55, .isub, 56, 0), (56, .iaload, 57, 0), (57, .ireturn, 58, 0)]
def mX2_readByte : Mt := (yX2_readByte, cX2_readByte, 1, (some .int), 2, tX2_readByte)
def tX2_readNumber : List (Nat × Rw) := [(0, .iconst 0, 1, 0), (1, .istore_n 1, 2, 0), (2, .iconst 0, 3, 0), (3, .istore_n 2, 4, 0), (4, .iload_n 2, 5, 0), (5, .iconst 3, 6, 0), (6, .if_icmp .ge 33, 9, 39), (9, .aload_n 0, 10, 0), (10, .invokevirtual 65, 13, 0), (13, .istore_n 3, 14, 0), (14, .iload_n 1, 15, 0), (15, .bipush 7, 17, 0), (17, .ishl, 18, 0), (18, .iload_n 3, 19, 0), (19, .bipush 127, 21, 0), (21, .iand, 22, 0), (22, .ior, 23, 0), (23, .istore_n 1, 24, 0), (24, .iload_n 3, 25, 0), (25, .sipush 128, 28, 0), (28, .if_icmp .ge 5, 31, 33), (31, .iload_n 1, 32, 0), (32, .ireturn, 33, 0), (33, .iinc 2 1, 36, 0), (36, .goto (-32), 39, 4), (39, .iload_n 1, 40, 0), (40, .bipush 8, 42, 0), (42, .ishl, 43, 0), (43, .aload_n 0, 44, 0), (44, .invokevirtual 65, 47, 0), (47, .ior, 48, 0), (48, .ireturn, 49, 0)]
def mX2_readNumber : Mt := (yX2_readNumber, cX2_readNumber, 4, (some .int), 2, tX2_readNumber)
def tX2_knownText : List (Nat × Rw) := [(0, .aload_n 0, 1, 0), (1, .getfield 14, 4, 0), (4, .iload_n 1, 5, 0), (5, .invokevirtual 132, 8, 0), (8, .lstore_n 3, 9, 0), (9, .lload_n 3, 10, 0), (10, .ldc2_w 134, 13, 0), (13, .lcmp, 14, 0), (14, .ifCond .ne 8, 17, 22), (17, .aload_n 0, 18, 0), (18, .iload_n 2, 19, 0), (19, .invokevirtual 88, 22, 0), (22, .lload_n 3, 23, 0), (23, .lreturn, 24, 0)]
def mX2_knownText : Mt := (yX2_knownText, cX2_knownText, 5, (some .long), 2, tX2_knownText)
def tX2_readString : List (Nat × Rw) := [(0, .aload_n 0, 1, 0), (1, .getfield 58, 4, 0), (4, .istore_n 1, 5, 0), (5, .aload_n 0, 6, 0), (6, .invokevirtual 91, 9, 0), (9, .istore_n 2, 10, 0), (10, .iload_n 2, 11, 0), (11, .iconst 2, 12, 0), (12, .irem, 13, 0), (13, .ifCond .ne 12, 16, 25), (16, .aload_n 0, 17, 0), (17, .iload_n 2, 18, 0), (18, .iconst 2, 19, 0), (19, .idiv, 20, 0), (20, .iload_n 1, 21, 0), (21, .invokevirtual 206, 24, 0), (24, .lreturn, 25, 0), (25, .iload_n 2, 26, 0), (26, .iconst 2, 27, 0), (27, .idiv, 28, 0), (28, .istore_n 3, 29, 0), (29, .iload_n 3, 30, 0), (30, .bipush 7, 32, 0), (32, .if_icmp .le 8, 35, 40), (35, .aload_n 0, 36, 0), (36, .iload_n 1, 37, 0), (37, .invokevirtual 88, 40, 0), (40, .iconst 0, 41, 0), (41, .istore 4, 43, 0), (43, .lconst 0, 44, 0), (44, .lstore 5, 46, 0), (46, .iconst 0, 47, 0), (47, .istore 7, 49, 0), (49, .iload 7, 51, 0), (51, .iload_n 3, 52, 0), (52, .if_icmp .ge 53, 55, 105), (55, .aload_n 0, 56, 0), (56, .invokevirtual 65, 59, 0), (59, .istore 8, 61, 0), (61, .iload 4, 63, 0), (63, .ifCond .ne 15, 66, 78), (66, .iload 8, 68, 0), (68, .ifCond .eq 10, 71, 78), (71, .iload 8, 73, 0), (73, .bipush 126, 75, 0), (75, .if_icmp .le 7, 78, 82), (78, .iconst 1, 79, 0), (79, .goto 4, 82, 83), (82, .iconst 0, 83, 0), (83, .istore 4, 85, 0), (85, .lload 5, 87, 0), (87, .iload 8, 89, 0), (89, .i2l, 90, 0), (90, .bipush 8, 92, 0), (92, .iload 7, 94, 0), (94, .imul, 95, 0), (95, .lshl, 96, 0), (96, .lor, 97, 0), (97, .lstore 5, 99, 0), (99, .iinc 7 1, 102, 0), (102, .goto (-53), 105, 49), (105, .iload 4, 107, 0), (107, .ifCond .eq 8, 110, 115), (110, .aload_n 0, 111, 0), (111, .iload_n 1, 112, 0), (112, .invokevirtual 88, 115, 0), (115, .lload 5, 117, 0), (117, .lconst 0, 118, 0), (118, .lcmp, 119, 0), (119, .ifCond .eq 12, 122, 131), (122, .aload_n 0, 123, 0), (123, .getfield 14, 126, 0), (126, .lload 5, 128, 0), (128, .invokevirtual 114, 131, 0), (131, .lload 5, 133, 0), (133, .lreturn, 134, 0)]
def mX2_readString : Mt := (yX2_readString, cX2_readString, 9, (some .long), 2, tX2_readString)
def tX2_keepDraft : List (Nat × Rw) := [(0, .aload_n 0, 1, 0), (1, .getfield 30, 4, 0), (4, .aload_n 0, 5, 0), (5, .getfield 53, 8, 0), (8, .invokevirtual 193, 11, 0), (11, .istore_n 2, 12, 0), (12, .iload_n 2, 13, 0), (13, .bipush 12, 15, 0), (15, .if_icmp .ne 8, 18, 23), (18, .aload_n 0, 19, 0), (19, .iload_n 1, 20, 0), (20, .invokevirtual 88, 23, 0), (23, .iload_n 2, 24, 0), (24, .aload_n 0, 25, 0), (25, .getfield 53, 28, 0), (28, .if_icmp .ne 13, 31, 41), (31, .aload_n 0, 32, 0), (32, .dup, 33, 0), (33, .getfield 53, 36, 0), (36, .iconst 1, 37, 0), (37, .iadd, 38, 0), (38, .putfield 53, 41, 0), (41, .aload_n 0, 42, 0), (42, .getfield 23, 45, 0), (45, .iload_n 2, 46, 0), (46, .i2l, 47, 0), (47, .invokevirtual 114, 50, 0), (50, .iload_n 2, 51, 0), (51, .ireturn, 52, 0)]
def mX2_keepDraft : Mt := (yX2_keepDraft, cX2_keepDraft, 3, (some .int), 2, tX2_keepDraft)
def tX2_readTraits : List (Nat × Rw) := [(0, .iload_n 1, 1, 0), (1, .iconst 4, 2, 0), (2, .irem, 3, 0), (3, .iconst 1, 4, 0), (4, .if_icmp .ne 12, 7, 16), (7, .aload_n 0, 8, 0), (8, .iload_n 1, 9, 0), (9, .iconst 4, 10, 0), (10, .idiv, 11, 0), (11, .iload_n 2, 12, 0), (12, .invokevirtual 171, 15, 0), (15, .ireturn, 16, 0), (16, .iload_n 1, 17, 0), (17, .bipush 16, 19, 0), (19, .idiv, 20, 0), (20, .istore_n 3, 21, 0), (21, .iload_n 1, 22, 0), (22, .bipush 8, 24, 0), (24, .irem, 25, 0), (25, .bipush 7, 27, 0), (27, .if_icmp .eq 8, 30, 35), (30, .iload_n 3, 31, 0), (31, .iconst 3, 32, 0), (32, .if_icmp .le 8, 35, 40), (35, .aload_n 0, 36, 0), (36, .iload_n 2, 37, 0), (37, .invokevirtual 88, 40, 0), (40, .aload_n 0, 41, 0), (41, .getfield 58, 44, 0), (44, .istore 4, 46, 0), (46, .aload_n 0, 47, 0), (47, .invokevirtual 77, 50, 0), (50, .lstore 5, 52, 0), (52, .lload 5, 54, 0), (54, .lconst 0, 55, 0), (55, .lcmp, 56, 0), (56, .ifCond .eq 21, 59, 77), (59, .aload_n 0, 60, 0), (60, .getfield 38, 63, 0), (63, .lload 5, 65, 0), (65, .invokevirtual 174, 68, 0), (68, .ifCond .ne 9, 71, 77), (71, .aload_n 0, 72, 0), (72, .iload 4, 74, 0), (74, .invokevirtual 88, 77, 0), (77, .aload_n 0, 78, 0), (78, .getfield 30, 81, 0), (81, .getfield 178, 84, 0), (84, .aload_n 0, 85, 0), (85, .getfield 53, 88, 0), (88, .aaload, 89, 0), (89, .astore 7, 91, 0), (91, .aload 7, 93, 0), (93, .lload 5, 95, 0), (95, .iload_n 1, 96, 0), (96, .bipush 8, 98, 0), (98, .iand, 99, 0), (99, .ifCond .eq 7, 102, 106), (102, .iconst 1, 103, 0), (103, .goto 4, 106, 107), (106, .iconst 0, 107, 0), (107, .invokevirtual 181, 110, 0), (110, .iconst 0, 111, 0), (111, .istore 8, 113, 0), (113, .iload 8, 115, 0), (115, .iload_n 3, 116, 0), (116, .if_icmp .ge 57, 119, 173), (119, .aload_n 0, 120, 0), (120, .getfield 58, 123, 0), (123, .istore 9, 125, 0), (125, .aload_n 0, 126, 0), (126, .invokevirtual 77, 129, 0), (129, .lstore 10, 131, 0), (131, .lload 10, 133, 0), (133, .lconst 0, 134, 0), (134, .lcmp, 135, 0), (135, .ifCond .eq 16, 138, 151), (138, .aload 7, 140, 0), (140, .getfield 186, 143, 0), (143, .lload 10, 145, 0), (145, .invokevirtual 174, 148, 0), (148, .ifCond .eq 9, 151, 157), (151, .aload_n 0, 152, 0), (152, .iload 9, 154, 0), (154, .invokevirtual 88, 157, 0), (157, .aload 7, 159, 0), (159, .getfield 186, 162, 0), (162, .lload 10, 164, 0), (164, .invokevirtual 114, 167, 0), (167, .iinc 8 1, 170, 0), (170, .goto (-57), 173, 113), (173, .aload_n 0, 174, 0), (174, .iload_n 2, 175, 0), (175, .invokevirtual 189, 178, 0), (178, .ireturn, 179, 0)]
def mX2_readTraits : Mt := (yX2_readTraits, cX2_readTraits, 12, (some .int), 2, tX2_readTraits)
def tX2_knownThing : List (Nat × Rw) := [(0, .aload_n 0, 1, 0), (1, .getfield 20, 4, 0), (4, .iload_n 2, 5, 0), (5, .invokevirtual 132, 8, 0), (8, .lstore 4, 10, 0), (10, .lload 4, 12, 0), (12, .ldc2_w 134, 15, 0), (15, .lcmp, 16, 0), (16, .ifCond .eq 21, 19, 37), (19, .aload_n 0, 20, 0), (20, .getfield 30, 23, 0), (23, .getfield 106, 26, 0), (26, .lload 4, 28, 0), (28, .l2i, 29, 0), (29, .aaload, 30, 0), (30, .getfield 136, 33, 0), (33, .iload_n 1, 34, 0), (34, .if_icmp .eq 8, 37, 42), (37, .aload_n 0, 38, 0), (38, .iload_n 3, 39, 0), (39, .invokevirtual 88, 42, 0), (42, .bipush 7, 44, 0), (44, .lload 4, 46, 0), (46, .invokestatic 80, 49, 0), (49, .lreturn, 50, 0)]
def mX2_knownThing : Mt := (yX2_knownThing, cX2_knownThing, 6, (some .long), 2, tX2_knownThing)
def tX2_readEight : List (Nat × Rw) := [(0, .lconst 0, 1, 0), (1, .lstore_n 1, 2, 0), (2, .iconst 0, 3, 0), (3, .istore_n 3, 4, 0), (4, .iload_n 3, 5, 0), (5, .bipush 8, 7, 0), (7, .if_icmp .ge 20, 10, 27), (10, .lload_n 1, 11, 0), (11, .bipush 8, 13, 0), (13, .lshl, 14, 0), (14, .aload_n 0, 15, 0), (15, .invokevirtual 65, 18, 0), (18, .i2l, 19, 0), (19, .lor, 20, 0), (20, .lstore_n 1, 21, 0), (21, .iinc 3 1, 24, 0), (24, .goto (-20), 27, 4), (27, .lload_n 1, 28, 0), (28, .lreturn, 29, 0)]
def mX2_readEight : Mt := (yX2_readEight, cX2_readEight, 4, (some .long), 2, tX2_readEight)
def tX2_readDate : List (Nat × Rw) := [(0, .iload_n 2, 1, 0), (1, .iconst 1, 2, 0), (2, .if_icmp .eq 8, 5, 10), (5, .aload_n 0, 6, 0), (6, .iload_n 3, 7, 0), (7, .invokevirtual 88, 10, 0), (10, .aload_n 1, 11, 0), (11, .aload_n 0, 12, 0), (12, .invokevirtual 100, 15, 0), (15, .putfield 139, 18, 0), (18, .return_, 19, 0)]
def mX2_readDate : Mt := (yX2_readDate, cX2_readDate, 4, none, 2, tX2_readDate)
def tX2_readBytes : List (Nat × Rw) := [(0, .iload_n 2, 1, 0), (1, .bipush 8, 3, 0), (3, .if_icmp .le 8, 6, 11), (6, .aload_n 0, 7, 0), (7, .iload_n 3, 8, 0), (8, .invokevirtual 88, 11, 0), (11, .iconst 0, 12, 0), (12, .istore 4, 14, 0), (14, .iload 4, 16, 0), (16, .iload_n 2, 17, 0), (17, .if_icmp .ge 25, 20, 42), (20, .aload_n 1, 21, 0), (21, .getfield 143, 24, 0), (24, .iconst 4, 25, 0), (25, .aload_n 0, 26, 0), (26, .invokevirtual 65, 29, 0), (29, .i2l, 30, 0), (30, .invokestatic 80, 33, 0), (33, .invokevirtual 114, 36, 0), (36, .iinc 4 1, 39, 0), (39, .goto (-25), 42, 14), (42, .return_, 43, 0)]
def mX2_readBytes : Mt := (yX2_readBytes, cX2_readBytes, 5, none, 2, tX2_readBytes)
def tX2_readInteger : List (Nat × Rw) := [(0, .aload_n 0, 1, 0), (1, .invokevirtual 91, 4, 0), (4, .istore_n 1, 5, 0), (5, .iconst 4, 6, 0), (6, .iload_n 1, 7, 0), (7, .ldc 94, 9, 0), (9, .if_icmp .ge 8, 12, 17), (12, .iload_n 1, 13, 0), (13, .i2l, 14, 0), (14, .goto 8, 17, 22), (17, .iload_n 1, 18, 0), (18, .ldc 95, 20, 0), (20, .isub, 21, 0), (21, .i2l, 22, 0), (22, .invokestatic 80, 25, 0), (25, .lreturn, 26, 0)]
def mX2_readInteger : Mt := (yX2_readInteger, cX2_readInteger, 2, (some .long), 2, tX2_readInteger)
def tX2_readWide : List (Nat × Rw) := [(0, .aload_n 0, 1, 0), (1, .getfield 49, 4, 0), (4, .bipush 40, 6, 0), (6, .if_icmp .ne 8, 9, 14), (9, .aload_n 0, 10, 0), (10, .iload_n 1, 11, 0), (11, .invokevirtual 88, 14, 0), (14, .aload_n 0, 15, 0), (15, .getfield 30, 18, 0), (18, .getfield 96, 21, 0), (21, .aload_n 0, 22, 0), (22, .getfield 49, 25, 0), (25, .aload_n 0, 26, 0), (26, .invokevirtual 100, 29, 0), (29, .lastore, 30, 0), (30, .aload_n 0, 31, 0), (31, .dup, 32, 0), (32, .getfield 49, 35, 0), (35, .iconst 1, 36, 0), (36, .iadd, 37, 0), (37, .putfield 49, 40, 0), (40, .iconst 5, 41, 0), (41, .aload_n 0, 42, 0), (42, .getfield 49, 45, 0), (45, .iconst 1, 46, 0), (46, .isub, 47, 0), (47, .i2l, 48, 0), (48, .invokestatic 80, 51, 0), (51, .lreturn, 52, 0)]
def mX2_readWide : Mt := (yX2_readWide, cX2_readWide, 2, (some .long), 2, tX2_readWide)
def tX2_readArray : List (Nat × Rw) := [(0, .iload_n 2, 1, 0), (1, .bipush 8, 3, 0), (3, .if_icmp .le 8, 6, 11), (6, .aload_n 0, 7, 0), (7, .iload_n 3, 8, 0), (8, .invokevirtual 88, 11, 0), (11, .aload_n 0, 12, 0), (12, .aload_n 1, 13, 0), (13, .iload 4, 15, 0), (15, .invokevirtual 146, 18, 0), (18, .iconst 0, 19, 0), (19, .istore 5, 21, 0), (21, .iload 5, 23, 0), (23, .iload_n 2, 24, 0), (24, .if_icmp .ge 22, 27, 46), (27, .aload_n 1, 28, 0), (28, .getfield 143, 31, 0), (31, .aload_n 0, 32, 0), (32, .iload 4, 34, 0), (34, .invokevirtual 150, 37, 0), (37, .invokevirtual 114, 40, 0), (40, .iinc 5 1, 43, 0), (43, .goto (-22), 46, 21), (46, .return_, 47, 0)]
def mX2_readArray : Mt := (yX2_readArray, cX2_readArray, 6, none, 2, tX2_readArray)
def tX2_readObject : List (Nat × Rw) := [(0, .aload_n 0, 1, 0), (1, .getfield 30, 4, 0), (4, .aload_n 1, 5, 0), (5, .aload_n 0, 6, 0), (6, .iload_n 2, 7, 0), (7, .iload_n 3, 8, 0), (8, .invokevirtual 153, 11, 0), (11, .invokevirtual 157, 14, 0), (14, .iconst 0, 15, 0), (15, .istore 5, 17, 0), (17, .iload 5, 19, 0), (19, .aload_n 1, 20, 0), (20, .getfield 143, 23, 0), (23, .getfield 160, 26, 0), (26, .if_icmp .ge 24, 29, 50), (29, .aload_n 1, 30, 0), (30, .getfield 143, 33, 0), (33, .iload 5, 35, 0), (35, .aload_n 0, 36, 0), (36, .iload 4, 38, 0), (38, .invokevirtual 150, 41, 0), (41, .invokevirtual 163, 44, 0), (44, .iinc 5 1, 47, 0), (47, .goto (-30), 50, 17), (50, .aload_n 0, 51, 0), (51, .getfield 30, 54, 0), (54, .aload_n 1, 55, 0), (55, .invokevirtual 167, 58, 0), (58, .ifCond .eq 10, 61, 68), (61, .aload_n 0, 62, 0), (62, .aload_n 1, 63, 0), (63, .iload 4, 65, 0), (65, .invokevirtual 146, 68, 0), (68, .return_, 69, 0)]
def mX2_readObject : Mt := (yX2_readObject, cX2_readObject, 6, none, 2, tX2_readObject)
def tX2_readPairs : List (Nat × Rw) := [(0, .iconst 0, 1, 0), (1, .istore_n 3, 2, 0), (2, .iload_n 3, 3, 0), (3, .bipush 6, 5, 0), (5, .if_icmp .gt 87, 8, 92), (8, .aload_n 0, 9, 0), (9, .getfield 58, 12, 0), (12, .istore 4, 14, 0), (14, .aload_n 0, 15, 0), (15, .invokevirtual 77, 18, 0), (18, .lstore 5, 20, 0), (20, .lload 5, 22, 0), (22, .lconst 0, 23, 0), (23, .lcmp, 24, 0), (24, .ifCond .ne 4, 27, 28), (27, .return_, 28, 0), (28, .iload_n 3, 29, 0), (29, .bipush 6, 31, 0), (31, .if_icmp .eq 28, 34, 59), (34, .aload_n 1, 35, 0), (35, .getfield 196, 38, 0), (38, .lload 5, 40, 0), (40, .invokevirtual 174, 43, 0), (43, .ifCond .ne 16, 46, 59), (46, .aload_n 0, 47, 0), (47, .getfield 30, 50, 0), (50, .aload_n 1, 51, 0), (51, .lload 5, 53, 0), (53, .invokevirtual 199, 56, 0), (56, .ifCond .eq 9, 59, 65), (59, .aload_n 0, 60, 0), (60, .iload 4, 62, 0), (62, .invokevirtual 88, 65, 0), (65, .aload_n 1, 66, 0), (66, .getfield 196, 69, 0), (69, .lload 5, 71, 0), (71, .invokevirtual 114, 74, 0), (74, .aload_n 1, 75, 0), (75, .getfield 203, 78, 0), (78, .aload_n 0, 79, 0), (79, .iload_n 2, 80, 0), (80, .invokevirtual 150, 83, 0), (83, .invokevirtual 114, 86, 0), (86, .iinc 3 1, 89, 0), (89, .goto (-87), 92, 2), (92, .return_, 93, 0)]
def mX2_readPairs : Mt := (yX2_readPairs, cX2_readPairs, 7, none, 2, tX2_readPairs)
def tX2_readThing : List (Nat × Rw) := [(0, .aload_n 0, 1, 0), (1, .getfield 58, 4, 0), (4, .istore 4, 6, 0), (6, .aload_n 0, 7, 0), (7, .invokevirtual 91, 10, 0), (10, .istore 5, 12, 0), (12, .iload 5, 14, 0), (14, .iconst 2, 15, 0), (15, .irem, 16, 0), (16, .ifCond .ne 15, 19, 31), (19, .aload_n 0, 20, 0), (20, .iload_n 1, 21, 0), (21, .iload 5, 23, 0), (23, .iconst 2, 24, 0), (24, .idiv, 25, 0), (25, .iload 4, 27, 0), (27, .invokevirtual 103, 30, 0), (30, .lreturn, 31, 0), (31, .aload_n 0, 32, 0), (32, .getfield 57, 35, 0), (35, .bipush 40, 37, 0), (37, .if_icmp .eq 9, 40, 46), (40, .iload_n 3, 41, 0), (41, .bipush 12, 43, 0), (43, .if_icmp .ne 8, 46, 51), (46, .aload_n 0, 47, 0), (47, .iload_n 2, 48, 0), (48, .invokevirtual 88, 51, 0), (51, .aload_n 0, 52, 0), (52, .getfield 57, 55, 0), (55, .istore 6, 57, 0), (57, .aload_n 0, 58, 0), (58, .getfield 30, 61, 0), (61, .getfield 106, 64, 0), (64, .iload 6, 66, 0), (66, .aaload, 67, 0), (67, .astore 7, 69, 0), (69, .aload 7, 71, 0), (71, .iload_n 1, 72, 0), (72, .invokevirtual 109, 75, 0), (75, .aload_n 0, 76, 0), (76, .dup, 77, 0), (77, .getfield 57, 80, 0), (80, .iconst 1, 81, 0), (81, .iadd, 82, 0), (82, .putfield 57, 85, 0), (85, .aload_n 0, 86, 0), (86, .getfield 20, 89, 0), (89, .iload 6, 91, 0), (91, .i2l, 92, 0), (92, .invokevirtual 114, 95, 0), (95, .iload_n 1, 96, 0), (96, .tableswitch 82 8 12 #[36, 64, 82, 82, 49], 132, 0), (132, .aload_n 0, 133, 0), (133, .aload 7, 135, 0), (135, .iload 5, 137, 0), (137, .iload 4, 139, 0), (139, .invokevirtual 118, 142, 0), (142, .goto 49, 145, 191), (145, .aload_n 0, 146, 0), (146, .aload 7, 148, 0), (148, .iload 5, 150, 0), (150, .iconst 2, 151, 0), (151, .idiv, 152, 0), (152, .iload 4, 154, 0), (154, .invokevirtual 122, 157, 0), (157, .goto 34, 160, 191), (160, .aload_n 0, 161, 0), (161, .aload 7, 163, 0), (163, .iload 5, 165, 0), (165, .iconst 2, 166, 0), (166, .idiv, 167, 0), (167, .iload 4, 169, 0), (169, .iload_n 3, 170, 0), (170, .iconst 1, 171, 0), (171, .iadd, 172, 0), (172, .invokevirtual 125, 175, 0), (175, .goto 16, 178, 191), (178, .aload_n 0, 179, 0), (179, .aload 7, 181, 0), (181, .iload 5, 183, 0), (183, .iload 4, 185, 0), (185, .iload_n 3, 186, 0), (186, .iconst 1, 187, 0), (187, .iadd, 188, 0), (188, .invokevirtual 129, 191, 0), (191, .bipush 7, 193, 0), (193, .iload 6, 195, 0), (195, .i2l, 196, 0), (196, .invokestatic 80, 199, 0), (199, .lreturn, 200, 0)]
def mX2_readThing : Mt := (yX2_readThing, cX2_readThing, 8, (some .long), 2, tX2_readThing)
def tX2_readValue : List (Nat × Rw) := [(0, .aload_n 0, 1, 0), (1, .getfield 58, 4, 0), (4, .istore_n 2, 5, 0), (5, .aload_n 0, 6, 0), (6, .invokevirtual 65, 9, 0), (9, .istore_n 3, 10, 0), (10, .iload_n 3, 11, 0), (11, .tableswitch 78 4 12 #[49, 54, 60, 78, 70, 70, 70, 78, 70], 60, 0), (60, .aload_n 0, 61, 0), (61, .invokevirtual 69, 64, 0), (64, .lreturn, 65, 0), (65, .aload_n 0, 66, 0), (66, .iload_n 2, 67, 0), (67, .invokevirtual 73, 70, 0), (70, .lreturn, 71, 0), (71, .bipush 6, 73, 0), (73, .aload_n 0, 74, 0), (74, .invokevirtual 77, 77, 0), (77, .invokestatic 80, 80, 0), (80, .lreturn, 81, 0), (81, .aload_n 0, 82, 0), (82, .iload_n 3, 83, 0), (83, .iload_n 2, 84, 0), (84, .iload_n 1, 85, 0), (85, .invokevirtual 84, 88, 0), (88, .lreturn, 89, 0), (89, .iload_n 3, 90, 0), (90, .iconst 3, 91, 0), (91, .if_icmp .le 8, 94, 99), (94, .aload_n 0, 95, 0), (95, .iload_n 2, 96, 0), (96, .invokevirtual 88, 99, 0), (99, .iload_n 3, 100, 0), (100, .i2l, 101, 0), (101, .lreturn, 102, 0)]
def mX2_readValue : Mt := (yX2_readValue, cX2_readValue, 4, (some .long), 2, tX2_readValue)
def tX1_init : List (Nat × Rw) := [(0, .aload_n 0, 1, 0), (1, .invokespecial 3, 4, 0), (4, .aload_n 0, 5, 0), (5, .bipush 40, 7, 0), (7, .newarray .int, 9, 0), (9, .putfield 9, 12, 0), (12, .aload_n 0, 13, 0), (13, .bipush 40, 15, 0), (15, .newarray .int, 17, 0), (17, .putfield 15, 20, 0), (20, .aload_n 0, 21, 0), (21, .bipush 40, 23, 0), (23, .newarray .int, 25, 0), (25, .putfield 18, 28, 0), (28, .aload_n 0, 29, 0), (29, .aload_n 1, 30, 0), (30, .putfield 21, 33, 0), (33, .return_, 34, 0)]
def mX1_init : Mt := (yX1_init, cX1_init, 2, none, 1, tX1_init)
def tX1_start : List (Nat × Rw) := [(0, .aload_n 0, 1, 0), (1, .getfield 9, 4, 0), (4, .iconst (-1), 5, 0), (5, .invokestatic 25, 8, 0), (8, .aload_n 0, 9, 0), (9, .getfield 15, 12, 0), (12, .iconst (-1), 13, 0), (13, .invokestatic 25, 16, 0), (16, .aload_n 0, 17, 0), (17, .iconst 0, 18, 0), (18, .putfield 31, 21, 0), (21, .return_, 22, 0)]
def mX1_start : Mt := (yX1_start, cX1_start, 1, none, 1, tX1_start)
def tX1_becomePartners : List (Nat × Rw) := [(0, .aload_n 0, 1, 0), (1, .getfield 9, 4, 0), (4, .iload_n 1, 5, 0), (5, .iaload, 6, 0), (6, .iconst (-1), 7, 0), (7, .if_icmp .ne 49, 10, 56), (10, .aload_n 0, 11, 0), (11, .getfield 15, 14, 0), (14, .iload_n 2, 15, 0), (15, .iaload, 16, 0), (16, .iconst (-1), 17, 0), (17, .if_icmp .ne 39, 20, 56), (20, .aload_n 0, 21, 0), (21, .getfield 9, 24, 0), (24, .iload_n 1, 25, 0), (25, .iload_n 2, 26, 0), (26, .iastore, 27, 0), (27, .aload_n 0, 28, 0), (28, .getfield 15, 31, 0), (31, .iload_n 2, 32, 0), (32, .iload_n 1, 33, 0), (33, .iastore, 34, 0), (34, .aload_n 0, 35, 0), (35, .getfield 18, 38, 0), (38, .aload_n 0, 39, 0), (39, .getfield 31, 42, 0), (42, .iload_n 1, 43, 0), (43, .iastore, 44, 0), (44, .aload_n 0, 45, 0), (45, .dup, 46, 0), (46, .getfield 31, 49, 0), (49, .iconst 1, 50, 0), (50, .iadd, 51, 0), (51, .putfield 31, 54, 0), (54, .iconst 1, 55, 0), (55, .ireturn, 56, 0), (56, .aload_n 0, 57, 0), (57, .getfield 9, 60, 0), (60, .iload_n 1, 61, 0), (61, .iaload, 62, 0), (62, .iload_n 2, 63, 0), (63, .if_icmp .ne 7, 66, 70), (66, .iconst 1, 67, 0), (67, .goto 4, 70, 71), (70, .iconst 0, 71, 0), (71, .ireturn, 72, 0)]
def mX1_becomePartners : Mt := (yX1_becomePartners, cX1_becomePartners, 3, (some .boolean), 1, tX1_becomePartners)
def tX1_meet : List (Nat × Rw) := [(0, .lload_n 1, 1, 0), (1, .invokestatic 49, 4, 0), (4, .istore 5, 6, 0), (6, .iload 5, 8, 0), (8, .lload_n 3, 9, 0), (9, .invokestatic 49, 12, 0), (12, .if_icmp .eq 5, 15, 17), (15, .iconst 0, 16, 0), (16, .ireturn, 17, 0), (17, .iload 5, 19, 0), (19, .iconst 5, 20, 0), (20, .if_icmp .ne 39, 23, 59), (23, .aload_n 0, 24, 0), (24, .getfield 21, 27, 0), (27, .getfield 53, 30, 0), (30, .lload_n 1, 31, 0), (31, .invokestatic 57, 34, 0), (34, .l2i, 35, 0), (35, .laload, 36, 0), (36, .aload_n 0, 37, 0), (37, .getfield 21, 40, 0), (40, .getfield 53, 43, 0), (43, .lload_n 3, 44, 0), (44, .invokestatic 57, 47, 0), (47, .l2i, 48, 0), (48, .laload, 49, 0), (49, .lcmp, 50, 0), (50, .ifCond .ne 7, 53, 57), (53, .iconst 1, 54, 0), (54, .goto 4, 57, 58), (57, .iconst 0, 58, 0), (58, .ireturn, 59, 0), (59, .iload 5, 61, 0), (61, .bipush 7, 63, 0), (63, .if_icmp .ne 18, 66, 81), (66, .aload_n 0, 67, 0), (67, .lload_n 1, 68, 0), (68, .invokestatic 57, 71, 0), (71, .l2i, 72, 0), (72, .lload_n 3, 73, 0), (73, .invokestatic 57, 76, 0), (76, .l2i, 77, 0), (77, .invokevirtual 61, 80, 0), (80, .ireturn, 81, 0), (81, .lload_n 1, 82, 0), (82, .lload_n 3, 83, 0), (83, .lcmp, 84, 0), (84, .ifCond .ne 7, 87, 91), (87, .iconst 1, 88, 0), (88, .goto 4, 91, 92), (91, .iconst 0, 92, 0), (92, .ireturn, 93, 0)]
def mX1_meet : Mt := (yX1_meet, cX1_meet, 6, (some .boolean), 1, tX1_meet)
def tX1_meetAll : List (Nat × Rw) := [(0, .aload_n 1, 1, 0), (1, .getfield 97, 4, 0), (4, .aload_n 2, 5, 0), (5, .getfield 97, 8, 0), (8, .if_icmp .eq 5, 11, 13), (11, .iconst 0, 12, 0), (12, .ireturn, 13, 0), (13, .iconst 0, 14, 0), (14, .istore_n 3, 15, 0), (15, .iload_n 3, 16, 0), (16, .aload_n 1, 17, 0), (17, .getfield 97, 20, 0), (20, .if_icmp .ge 28, 23, 48), (23, .aload_n 0, 24, 0), (24, .aload_n 1, 25, 0), (25, .iload_n 3, 26, 0), (26, .invokevirtual 100, 29, 0), (29, .aload_n 2, 30, 0), (30, .iload_n 3, 31, 0), (31, .invokevirtual 100, 34, 0), (34, .invokevirtual 35, 37, 0), (37, .ifCond .ne 5, 40, 42), (40, .iconst 0, 41, 0), (41, .ireturn, 42, 0), (42, .iinc 3 1, 45, 0), (45, .goto (-30), 48, 15), (48, .iconst 1, 49, 0), (49, .ireturn, 50, 0)]
def mX1_meetAll : Mt := (yX1_meetAll, cX1_meetAll, 4, (some .boolean), 1, tX1_meetAll)
def tX1_matchThings : List (Nat × Rw) := [(0, .aload_n 1, 1, 0), (1, .getfield 65, 4, 0), (4, .aload_n 2, 5, 0), (5, .getfield 65, 8, 0), (8, .if_icmp .ne 74, 11, 82), (11, .aload_n 1, 12, 0), (12, .getfield 70, 15, 0), (15, .aload_n 2, 16, 0), (16, .getfield 70, 19, 0), (19, .lcmp, 20, 0), (20, .ifCond .ne 62, 23, 82), (23, .aload_n 1, 24, 0), (24, .getfield 74, 27, 0), (27, .aload_n 2, 28, 0), (28, .getfield 74, 31, 0), (31, .if_icmp .ne 51, 34, 82), (34, .aload_n 1, 35, 0), (35, .getfield 77, 38, 0), (38, .aload_n 2, 39, 0), (39, .getfield 77, 42, 0), (42, .invokevirtual 81, 45, 0), (45, .ifCond .eq 37, 48, 82), (48, .aload_n 0, 49, 0), (49, .aload_n 1, 50, 0), (50, .getfield 87, 53, 0), (53, .aload_n 2, 54, 0), (54, .getfield 87, 57, 0), (57, .invokevirtual 90, 60, 0), (60, .ifCond .eq 22, 63, 82), (63, .aload_n 0, 64, 0), (64, .aload_n 1, 65, 0), (65, .getfield 94, 68, 0), (68, .aload_n 2, 69, 0), (69, .getfield 94, 72, 0), (72, .invokevirtual 90, 75, 0), (75, .ifCond .eq 7, 78, 82), (78, .iconst 1, 79, 0), (79, .goto 4, 82, 83), (82, .iconst 0, 83, 0), (83, .ireturn, 84, 0)]
def mX1_matchThings : Mt := (yX1_matchThings, cX1_matchThings, 3, (some .boolean), 1, tX1_matchThings)
def tX1_matches : List (Nat × Rw) := [(0, .aload_n 0, 1, 0), (1, .lload_n 1, 2, 0), (2, .lload_n 3, 3, 0), (3, .invokevirtual 35, 6, 0), (6, .ifCond .ne 5, 9, 11), (9, .iconst 0, 10, 0), (10, .ireturn, 11, 0), (11, .iconst 0, 12, 0), (12, .istore 5, 14, 0), (14, .iload 5, 16, 0), (16, .aload_n 0, 17, 0), (17, .getfield 31, 20, 0), (20, .if_icmp .ge 59, 23, 79), (23, .iload 5, 25, 0), (25, .bipush 40, 27, 0), (27, .if_icmp .ge 52, 30, 79), (30, .aload_n 0, 31, 0), (31, .getfield 18, 34, 0), (34, .iload 5, 36, 0), (36, .iaload, 37, 0), (37, .istore 6, 39, 0), (39, .aload_n 0, 40, 0), (40, .aload_n 0, 41, 0), (41, .getfield 21, 44, 0), (44, .getfield 39, 47, 0), (47, .iload 6, 49, 0), (49, .aaload, 50, 0), (50, .aload_n 0, 51, 0), (51, .getfield 21, 54, 0), (54, .getfield 39, 57, 0), (57, .aload_n 0, 58, 0), (58, .getfield 9, 61, 0), (61, .iload 6, 63, 0), (63, .iaload, 64, 0), (64, .aaload, 65, 0), (65, .invokevirtual 45, 68, 0), (68, .ifCond .ne 5, 71, 73), (71, .iconst 0, 72, 0), (72, .ireturn, 73, 0), (73, .iinc 5 1, 76, 0), (76, .goto (-62), 79, 14), (79, .iconst 1, 80, 0), (80, .ireturn, 81, 0)]
def mX1_matches : Mt := (yX1_matches, cX1_matches, 7, (some .boolean), 1, tX1_matches)
def tX9_init : List (Nat × Rw) := [(0, .aload_n 0, 1, 0), (1, .invokespecial 1, 4, 0), (4, .aload_n 0, 5, 0), (5, .bipush 40, 7, 0), (7, .newarray .long, 9, 0), (9, .putfield 7, 12, 0), (12, .aload_n 0, 13, 0), (13, .bipush 12, 15, 0), (15, .newarray .long, 17, 0), (17, .putfield 13, 20, 0), (20, .aload_n 0, 21, 0), (21, .bipush 12, 23, 0), (23, .newarray .boolean, 25, 0), (25, .putfield 16, 28, 0), (28, .aload_n 0, 29, 0), (29, .bipush 12, 31, 0), (31, .newarray .int, 33, 0), (33, .putfield 20, 36, 0), (36, .aload_n 0, 37, 0), (37, .bipush 36, 39, 0), (39, .newarray .long, 41, 0), (41, .putfield 24, 44, 0), (44, .aload_n 0, 45, 0), (45, .bipush 40, 47, 0), (47, .newarray .int, 49, 0), (49, .putfield 27, 52, 0), (52, .aload_n 0, 53, 0), (53, .bipush 40, 55, 0), (55, .newarray .long, 57, 0), (57, .putfield 30, 60, 0), (60, .aload_n 0, 61, 0), (61, .bipush 40, 63, 0), (63, .newarray .int, 65, 0), (65, .putfield 33, 68, 0), (68, .aload_n 0, 69, 0), (69, .bipush 40, 71, 0), (71, .newarray .int, 73, 0), (73, .putfield 36, 76, 0), (76, .aload_n 0, 77, 0), (77, .sipush 320, 80, 0), (80, .newarray .long, 82, 0), (82, .putfield 39, 85, 0), (85, .aload_n 0, 86, 0), (86, .bipush 40, 88, 0), (88, .newarray .int, 90, 0), (90, .putfield 42, 93, 0), (93, .aload_n 0, 94, 0), (94, .sipush 240, 97, 0), (97, .newarray .long, 99, 0), (99, .putfield 45, 102, 0), (102, .aload_n 0, 103, 0), (103, .sipush 240, 106, 0), (106, .newarray .long, 108, 0), (108, .putfield 48, 111, 0), (111, .aload_n 0, 112, 0), (112, .bipush 7, 114, 0), (114, .newarray .long, 116, 0), (116, .putfield 51, 119, 0), (119, .aload_n 0, 120, 0), (120, .sipush 600, 123, 0), (123, .newarray .int, 125, 0), (125, .putfield 54, 128, 0), (128, .aload_n 0, 129, 0), (129, .sipush 620, 132, 0), (132, .newarray .long, 134, 0), (134, .putfield 57, 137, 0), (137, .aload_n 0, 138, 0), (138, .bipush 80, 140, 0), (140, .newarray .int, 142, 0), (142, .putfield 60, 145, 0), (145, .aload_n 0, 146, 0), (146, .sipush 620, 149, 0), (149, .newarray .int, 151, 0), (151, .putfield 63, 154, 0), (154, .aload_n 0, 155, 0), (155, .bipush 13, 157, 0), (157, .newarray .int, 159, 0), (159, .putfield 66, 162, 0), (162, .aload_n 0, 163, 0), (163, .bipush 13, 165, 0), (165, .newarray .int, 167, 0), (167, .putfield 69, 170, 0), (170, .aload_n 0, 171, 0), (171, .bipush 13, 173, 0), (173, .newarray .int, 175, 0), (175, .putfield 72, 178, 0), (178, .aload_n 0, 179, 0), (179, .bipush 13, 181, 0), (181, .newarray .boolean, 183, 0), (183, .putfield 75, 186, 0), (186, .aload_n 0, 187, 0), (187, .sipush 700, 190, 0), (190, .newarray .int, 192, 0), (192, .putfield 78, 195, 0), (195, .aload_n 0, 196, 0), (196, .bipush 40, 198, 0), (198, .newarray .int, 200, 0), (200, .putfield 81, 203, 0), (203, .aload_n 0, 204, 0), (204, .bipush 40, 206, 0), (206, .newarray .int, 208, 0), (208, .putfield 84, 211, 0), (211, .aload_n 0, 212, 0), (212, .bipush 40, 214, 0), (214, .newarray .int, 216, 0), (216, .putfield 87, 219, 0), (219, .aload_n 0, 220, 0), (220, .iconst (-1), 221, 0), (221, .putfield 90, 224, 0), (224, .aload_n 0, 225, 0), (225, .iconst 1, 226, 0), (226, .putfield 94, 229, 0), (229, .return_, 230, 0)]
def mX9_init : Mt := (yX9_init, cX9_init, 1, none, 9, tX9_init)
def tX9_thrown : List (Nat × Rw) := [(0, .aload_n 0, 1, 0), (1, .getfield 97, 4, 0), (4, .ireturn, 5, 0)]
def mX9_thrown : Mt := (yX9_thrown, cX9_thrown, 1, (some .int), 9, tX9_thrown)
def tX9_letters : List (Nat × Rw) := [(0, .iconst 0, 1, 0), (1, .istore_n 2, 2, 0), (2, .iload_n 2, 3, 0), (3, .bipush 8, 5, 0), (5, .if_icmp .ge 20, 8, 25), (8, .lload_n 0, 9, 0), (9, .bipush 8, 11, 0), (11, .iload_n 2, 12, 0), (12, .imul, 13, 0), (13, .lushr, 14, 0), (14, .lconst 0, 15, 0), (15, .lcmp, 16, 0), (16, .ifCond .eq 9, 19, 25), (19, .iinc 2 1, 22, 0), (22, .goto (-20), 25, 2), (25, .iload_n 2, 26, 0), (26, .ireturn, 27, 0)]
def mX9_letters : Mt := (yX9_letters, cX9_letters, 3, (some .int), 9, tX9_letters)
def tX9_isText : List (Nat × Rw) := [(0, .lload_n 0, 1, 0), (1, .invokestatic 100, 4, 0), (4, .istore_n 2, 5, 0), (5, .iload_n 2, 6, 0), (6, .bipush 8, 8, 0), (8, .if_icmp .ge 7, 11, 15), (11, .iconst 1, 12, 0), (12, .goto 4, 15, 16), (15, .iconst 0, 16, 0), (16, .istore_n 3, 17, 0), (17, .iconst 0, 18, 0), (18, .istore 4, 20, 0), (20, .iload 4, 22, 0), (22, .iload_n 2, 23, 0), (23, .if_icmp .ge 48, 26, 71), (26, .lload_n 0, 27, 0), (27, .bipush 8, 29, 0), (29, .iload 4, 31, 0), (31, .imul, 32, 0), (32, .lushr, 33, 0), (33, .ldc2_w 104, 36, 0), (36, .land, 37, 0), (37, .lstore 5, 39, 0), (39, .iload_n 3, 40, 0), (40, .ifCond .eq 23, 43, 63), (43, .lload 5, 45, 0), (45, .lconst 1, 46, 0), (46, .lcmp, 47, 0), (47, .ifCond .lt 16, 50, 63), (50, .lload 5, 52, 0), (52, .ldc2_w 106, 55, 0), (55, .lcmp, 56, 0), (56, .ifCond .gt 7, 59, 63), (59, .iconst 1, 60, 0), (60, .goto 4, 63, 64), (63, .iconst 0, 64, 0), (64, .istore_n 3, 65, 0), (65, .iinc 4 1, 68, 0), (68, .goto (-48), 71, 20), (71, .iload_n 3, 72, 0), (72, .ireturn, 73, 0)]
def mX9_isText : Mt := (yX9_isText, cX9_isText, 7, (some .boolean), 9, tX9_isText)
def tX9_isValue : List (Nat × Rw) := [(0, .lload_n 1, 1, 0), (1, .ldc2_w 108, 4, 0), (4, .land, 5, 0), (5, .l2i, 6, 0), (6, .istore_n 3, 7, 0), (7, .lload_n 1, 8, 0), (8, .iconst 4, 9, 0), (9, .lshr, 10, 0), (10, .lstore 4, 12, 0), (12, .iload_n 3, 13, 0), (13, .tableswitch 153 0 7 #[47, 47, 47, 47, 60, 84, 108, 129], 60, 0), (60, .lload 4, 62, 0), (62, .lconst 0, 63, 0), (63, .lcmp, 64, 0), (64, .ifCond .ne 7, 67, 71), (67, .iconst 1, 68, 0), (68, .goto 4, 71, 72), (71, .iconst 0, 72, 0), (72, .ireturn, 73, 0), (73, .lload 4, 75, 0), (75, .ldc2_w 110, 78, 0), (78, .lcmp, 79, 0), (79, .ifCond .lt 16, 82, 95), (82, .lload 4, 84, 0), (84, .ldc2_w 112, 87, 0), (87, .lcmp, 88, 0), (88, .ifCond .gt 7, 91, 95), (91, .iconst 1, 92, 0), (92, .goto 4, 95, 96), (95, .iconst 0, 96, 0), (96, .ireturn, 97, 0), (97, .lload 4, 99, 0), (99, .lconst 0, 100, 0), (100, .lcmp, 101, 0), (101, .ifCond .lt 18, 104, 119), (104, .lload 4, 106, 0), (106, .aload_n 0, 107, 0), (107, .getfield 114, 110, 0), (110, .i2l, 111, 0), (111, .lcmp, 112, 0), (112, .ifCond .ge 7, 115, 119), (115, .iconst 1, 116, 0), (116, .goto 4, 119, 120), (119, .iconst 0, 120, 0), (120, .ireturn, 121, 0), (121, .lload 4, 123, 0), (123, .lconst 0, 124, 0), (124, .lcmp, 125, 0), (125, .ifCond .lt 15, 128, 140), (128, .lload 4, 130, 0), (130, .invokestatic 117, 133, 0), (133, .ifCond .eq 7, 136, 140), (136, .iconst 1, 137, 0), (137, .goto 4, 140, 141), (140, .iconst 0, 141, 0), (141, .ireturn, 142, 0), (142, .lload 4, 144, 0), (144, .lconst 0, 145, 0), (145, .lcmp, 146, 0), (146, .ifCond .lt 18, 149, 164), (149, .lload 4, 151, 0), (151, .aload_n 0, 152, 0), (152, .getfield 121, 155, 0), (155, .i2l, 156, 0), (156, .lcmp, 157, 0), (157, .ifCond .ge 7, 160, 164), (160, .iconst 1, 161, 0), (161, .goto 4, 164, 165), (164, .iconst 0, 165, 0), (165, .ireturn, 166, 0), (166, .iconst 0, 167, 0), (167, .ireturn, 168, 0)]
def mX9_isValue : Mt := (yX9_isValue, cX9_isValue, 6, (some .boolean), 9, tX9_isValue)
def tX9_isThing : List (Nat × Rw) := [(0, .iload_n 1, 1, 0), (1, .ifCond .lt 15, 4, 16), (4, .iload_n 1, 5, 0), (5, .aload_n 0, 6, 0), (6, .getfield 121, 9, 0), (9, .if_icmp .ge 7, 12, 16), (12, .iconst 1, 13, 0), (13, .goto 4, 16, 17), (16, .iconst 0, 17, 0), (17, .ireturn, 18, 0)]
def mX9_isThing : Mt := (yX9_isThing, cX9_isThing, 2, (some .boolean), 9, tX9_isThing)
def tX9_newWide : List (Nat × Rw) := [(0, .aload_n 0, 1, 0), (1, .getfield 7, 4, 0), (4, .aload_n 0, 5, 0), (5, .getfield 114, 8, 0), (8, .lload_n 1, 9, 0), (9, .lastore, 10, 0), (10, .aload_n 0, 11, 0), (11, .dup, 12, 0), (12, .getfield 114, 15, 0), (15, .iconst 1, 16, 0), (16, .iadd, 17, 0), (17, .putfield 114, 20, 0), (20, .ldc2_w 128, 23, 0), (23, .aload_n 0, 24, 0), (24, .getfield 114, 27, 0), (27, .iconst 1, 28, 0), (28, .isub, 29, 0), (29, .i2l, 30, 0), (30, .lmul, 31, 0), (31, .ldc2_w 130, 34, 0), (34, .ladd, 35, 0), (35, .lreturn, 36, 0)]
def mX9_newWide : Mt := (yX9_newWide, cX9_newWide, 3, (some .long), 9, tX9_newWide)
def tX9_wide : List (Nat × Rw) := [(0, .aload_n 0, 1, 0), (1, .aload_n 0, 2, 0), (2, .getfield 114, 5, 0), (5, .bipush 40, 7, 0), (7, .if_icmp .ne 7, 10, 14), (10, .iconst 1, 11, 0), (11, .goto 4, 14, 15), (14, .iconst 0, 15, 0), (15, .putfield 97, 18, 0), (18, .aload_n 0, 19, 0), (19, .getfield 97, 22, 0), (22, .ifCond .le 7, 25, 29), (25, .lconst 0, 26, 0), (26, .goto 8, 29, 34), (29, .aload_n 0, 30, 0), (30, .lload_n 1, 31, 0), (31, .invokevirtual 124, 34, 0), (34, .lreturn, 35, 0)]
def mX9_wide : Mt := (yX9_wide, cX9_wide, 3, (some .long), 9, tX9_wide)
def tX9_newThing : List (Nat × Rw) := [(0, .aload_n 0, 1, 0), (1, .getfield 27, 4, 0), (4, .aload_n 0, 5, 0), (5, .getfield 121, 8, 0), (8, .iload_n 1, 9, 0), (9, .iastore, 10, 0), (10, .aload_n 0, 11, 0), (11, .getfield 30, 14, 0), (14, .aload_n 0, 15, 0), (15, .getfield 121, 18, 0), (18, .lload_n 2, 19, 0), (19, .lastore, 20, 0), (20, .aload_n 0, 21, 0), (21, .getfield 33, 24, 0), (24, .aload_n 0, 25, 0), (25, .getfield 121, 28, 0), (28, .iload 4, 30, 0), (30, .iastore, 31, 0), (31, .aload_n 0, 32, 0), (32, .getfield 36, 35, 0), (35, .aload_n 0, 36, 0), (36, .getfield 121, 39, 0), (39, .iload 5, 41, 0), (41, .iastore, 42, 0), (42, .aload_n 0, 43, 0), (43, .getfield 42, 46, 0), (46, .aload_n 0, 47, 0), (47, .getfield 121, 50, 0), (50, .iconst 0, 51, 0), (51, .iastore, 52, 0), (52, .iconst 0, 53, 0), (53, .istore 6, 55, 0), (55, .iload 6, 57, 0), (57, .bipush 8, 59, 0), (59, .if_icmp .ge 25, 62, 84), (62, .aload_n 0, 63, 0), (63, .getfield 39, 66, 0), (66, .bipush 8, 68, 0), (68, .aload_n 0, 69, 0), (69, .getfield 121, 72, 0), (72, .imul, 73, 0), (73, .iload 6, 75, 0), (75, .iadd, 76, 0), (76, .lconst 0, 77, 0), (77, .lastore, 78, 0), (78, .iinc 6 1, 81, 0), (81, .goto (-26), 84, 55), (84, .aload_n 0, 85, 0), (85, .dup, 86, 0), (86, .getfield 121, 89, 0), (89, .iconst 1, 90, 0), (90, .iadd, 91, 0), (91, .putfield 121, 94, 0), (94, .aload_n 0, 95, 0), (95, .getfield 121, 98, 0), (98, .iconst 1, 99, 0), (99, .isub, 100, 0), (100, .ireturn, 101, 0)]
def mX9_newThing : Mt := (yX9_newThing, cX9_newThing, 7, (some .int), 9, tX9_newThing)
def tX9_valueOf : List (Nat × Rw) := [(0, .ldc2_w 128, 3, 0), (3, .iload_n 1, 4, 0), (4, .i2l, 5, 0), (5, .lmul, 6, 0), (6, .ldc2_w 132, 9, 0), (9, .ladd, 10, 0), (10, .lreturn, 11, 0)]
def mX9_valueOf : Mt := (yX9_valueOf, cX9_valueOf, 2, (some .long), 9, tX9_valueOf)
def tX9_date : List (Nat × Rw) := [(0, .aload_n 0, 1, 0), (1, .aload_n 0, 2, 0), (2, .getfield 121, 5, 0), (5, .bipush 40, 7, 0), (7, .if_icmp .ne 7, 10, 14), (10, .iconst 1, 11, 0), (11, .goto 4, 14, 15), (14, .iconst 0, 15, 0), (15, .putfield 97, 18, 0), (18, .aload_n 0, 19, 0), (19, .getfield 97, 22, 0), (22, .ifCond .le 7, 25, 29), (25, .lconst 0, 26, 0), (26, .goto 16, 29, 42), (29, .aload_n 0, 30, 0), (30, .aload_n 0, 31, 0), (31, .bipush 8, 33, 0), (33, .lload_n 1, 34, 0), (34, .iconst 0, 35, 0), (35, .iconst (-1), 36, 0), (36, .invokevirtual 134, 39, 0), (39, .invokevirtual 138, 42, 0), (42, .lreturn, 43, 0)]
def mX9_date : Mt := (yX9_date, cX9_date, 3, (some .long), 9, tX9_date)
def tX9_bytes : List (Nat × Rw) := [(0, .aload_n 0, 1, 0), (1, .iload_n 3, 2, 0), (2, .ifCond .lt 9, 5, 11), (5, .iload_n 3, 6, 0), (6, .bipush 8, 8, 0), (8, .if_icmp .le 7, 11, 15), (11, .iconst 1, 12, 0), (12, .goto 17, 15, 29), (15, .aload_n 0, 16, 0), (16, .getfield 121, 19, 0), (19, .bipush 40, 21, 0), (21, .if_icmp .ne 7, 24, 28), (24, .iconst 2, 25, 0), (25, .goto 4, 28, 29), (28, .iconst 0, 29, 0), (29, .putfield 97, 32, 0), (32, .aload_n 0, 33, 0), (33, .getfield 97, 36, 0), (36, .ifCond .le 7, 39, 43), (39, .lconst 0, 40, 0), (40, .goto 16, 43, 56), (43, .aload_n 0, 44, 0), (44, .aload_n 0, 45, 0), (45, .bipush 12, 47, 0), (47, .lload_n 1, 48, 0), (48, .iload_n 3, 49, 0), (49, .iconst (-1), 50, 0), (50, .invokevirtual 134, 53, 0), (53, .invokevirtual 138, 56, 0), (56, .lreturn, 57, 0)]
def mX9_bytes : Mt := (yX9_bytes, cX9_bytes, 4, (some .long), 9, tX9_bytes)
def tX9_array : List (Nat × Rw) := [(0, .aload_n 0, 1, 0), (1, .aload_n 0, 2, 0), (2, .getfield 121, 5, 0), (5, .bipush 40, 7, 0), (7, .if_icmp .ne 7, 10, 14), (10, .iconst 1, 11, 0), (11, .goto 4, 14, 15), (14, .iconst 0, 15, 0), (15, .putfield 97, 18, 0), (18, .aload_n 0, 19, 0), (19, .getfield 97, 22, 0), (22, .ifCond .le 7, 25, 29), (25, .lconst 0, 26, 0), (26, .goto 16, 29, 42), (29, .aload_n 0, 30, 0), (30, .aload_n 0, 31, 0), (31, .bipush 9, 33, 0), (33, .lconst 0, 34, 0), (34, .iconst 0, 35, 0), (35, .iconst (-1), 36, 0), (36, .invokevirtual 134, 39, 0), (39, .invokevirtual 138, 42, 0), (42, .lreturn, 43, 0)]
def mX9_array : Mt := (yX9_array, cX9_array, 1, (some .long), 9, tX9_array)
def tX9_alike : List (Nat × Rw) := [(0, .iconst (-1), 1, 0), (1, .istore 11, 3, 0), (3, .iconst 0, 4, 0), (4, .istore 12, 6, 0), (6, .iload 12, 8, 0), (8, .aload_n 0, 9, 0), (9, .getfield 142, 12, 0), (12, .if_icmp .ge 144, 15, 156), (15, .aload_n 0, 16, 0), (16, .getfield 13, 19, 0), (19, .iload 12, 21, 0), (21, .laload, 22, 0), (22, .lload_n 1, 23, 0), (23, .lcmp, 24, 0), (24, .ifCond .ne 30, 27, 54), (27, .aload_n 0, 28, 0), (28, .getfield 16, 31, 0), (31, .iload 12, 33, 0), (33, .baload, 34, 0), (34, .iload_n 3, 35, 0), (35, .if_icmp .ne 19, 38, 54), (38, .aload_n 0, 39, 0), (39, .getfield 20, 42, 0), (42, .iload 12, 44, 0), (44, .iaload, 45, 0), (45, .iload 4, 47, 0), (47, .if_icmp .ne 7, 50, 54), (50, .iconst 1, 51, 0), (51, .goto 4, 54, 55), (54, .iconst 0, 55, 0), (55, .istore 13, 57, 0), (57, .iload 13, 59, 0), (59, .ifCond .eq 74, 62, 133), (62, .iload 4, 64, 0), (64, .iconst 1, 65, 0), (65, .if_icmp .lt 18, 68, 83), (68, .aload_n 0, 69, 0), (69, .getfield 24, 72, 0), (72, .iconst 3, 73, 0), (73, .iload 12, 75, 0), (75, .imul, 76, 0), (76, .laload, 77, 0), (77, .lload 5, 79, 0), (79, .lcmp, 80, 0), (80, .ifCond .ne 53, 83, 133), (83, .iload 4, 85, 0), (85, .iconst 2, 86, 0), (86, .if_icmp .lt 20, 89, 106), (89, .aload_n 0, 90, 0), (90, .getfield 24, 93, 0), (93, .iconst 3, 94, 0), (94, .iload 12, 96, 0), (96, .imul, 97, 0), (97, .iconst 1, 98, 0), (98, .iadd, 99, 0), (99, .laload, 100, 0), (100, .lload 7, 102, 0), (102, .lcmp, 103, 0), (103, .ifCond .ne 30, 106, 133), (106, .iload 4, 108, 0), (108, .iconst 3, 109, 0), (109, .if_icmp .lt 20, 112, 129), (112, .aload_n 0, 113, 0), (113, .getfield 24, 116, 0), (116, .iconst 3, 117, 0), (117, .iload 12, 119, 0), (119, .imul, 120, 0), (120, .iconst 2, 121, 0), (121, .iadd, 122, 0), (122, .laload, 123, 0), (123, .lload 9, 125, 0), (125, .lcmp, 126, 0), (126, .ifCond .ne 7, 129, 133), (129, .iconst 1, 130, 0), (130, .goto 4, 133, 134), (133, .iconst 0, 134, 0), (134, .istore 13, 136, 0), (136, .iload 13, 138, 0), (138, .ifCond .eq 8, 141, 146), (141, .iload 12, 143, 0), (143, .goto 5, 146, 148), (146, .iload 11, 148, 0), (148, .istore 11, 150, 0), (150, .iinc 12 1, 153, 0), (153, .goto (-147), 156, 6), (156, .iload 11, 158, 0), (158, .ireturn, 159, 0)]
def mX9_alike : Mt := (yX9_alike, cX9_alike, 14, (some .int), 9, tX9_alike)
def tX9_newTraits : List (Nat × Rw) := [(0, .aload_n 0, 1, 0), (1, .getfield 13, 4, 0), (4, .aload_n 0, 5, 0), (5, .getfield 142, 8, 0), (8, .lload_n 1, 9, 0), (9, .lastore, 10, 0), (10, .aload_n 0, 11, 0), (11, .getfield 16, 14, 0), (14, .aload_n 0, 15, 0), (15, .getfield 142, 18, 0), (18, .iload_n 3, 19, 0), (19, .bastore, 20, 0), (20, .aload_n 0, 21, 0), (21, .getfield 20, 24, 0), (24, .aload_n 0, 25, 0), (25, .getfield 142, 28, 0), (28, .iload 4, 30, 0), (30, .iastore, 31, 0), (31, .aload_n 0, 32, 0), (32, .getfield 24, 35, 0), (35, .iconst 3, 36, 0), (36, .aload_n 0, 37, 0), (37, .getfield 142, 40, 0), (40, .imul, 41, 0), (41, .lload 5, 43, 0), (43, .lastore, 44, 0), (44, .aload_n 0, 45, 0), (45, .getfield 24, 48, 0), (48, .iconst 3, 49, 0), (49, .aload_n 0, 50, 0), (50, .getfield 142, 53, 0), (53, .imul, 54, 0), (54, .iconst 1, 55, 0), (55, .iadd, 56, 0), (56, .lload 7, 58, 0), (58, .lastore, 59, 0), (59, .aload_n 0, 60, 0), (60, .getfield 24, 63, 0), (63, .iconst 3, 64, 0), (64, .aload_n 0, 65, 0), (65, .getfield 142, 68, 0), (68, .imul, 69, 0), (69, .iconst 2, 70, 0), (70, .iadd, 71, 0), (71, .lload 9, 73, 0), (73, .lastore, 74, 0), (74, .aload_n 0, 75, 0), (75, .dup, 76, 0), (76, .getfield 142, 79, 0), (79, .iconst 1, 80, 0), (80, .iadd, 81, 0), (81, .putfield 142, 84, 0), (84, .aload_n 0, 85, 0), (85, .getfield 142, 88, 0), (88, .iconst 1, 89, 0), (89, .isub, 90, 0), (90, .ireturn, 91, 0)]
def mX9_newTraits : Mt := (yX9_newTraits, cX9_newTraits, 11, (some .int), 9, tX9_newTraits)
def tX9_traits : List (Nat × Rw) := [(0, .lload_n 1, 1, 0), (1, .invokestatic 117, 4, 0), (4, .ifCond .eq 31, 7, 35), (7, .lload 4, 9, 0), (9, .invokestatic 117, 12, 0), (12, .ifCond .eq 23, 15, 35), (15, .lload 6, 17, 0), (17, .invokestatic 117, 20, 0), (20, .ifCond .eq 15, 23, 35), (23, .lload 8, 25, 0), (25, .invokestatic 117, 28, 0), (28, .ifCond .eq 7, 31, 35), (31, .iconst 1, 32, 0), (32, .goto 4, 35, 36), (35, .iconst 0, 36, 0), (36, .istore 10, 38, 0), (38, .iload 10, 40, 0), (40, .ifCond .eq 35, 43, 75), (43, .lload 4, 45, 0), (45, .lconst 0, 46, 0), (46, .lcmp, 47, 0), (47, .ifCond .ne 10, 50, 57), (50, .lload 6, 52, 0), (52, .lconst 0, 53, 0), (53, .lcmp, 54, 0), (54, .ifCond .ne 21, 57, 75), (57, .lload 6, 59, 0), (59, .lconst 0, 60, 0), (60, .lcmp, 61, 0), (61, .ifCond .ne 10, 64, 71), (64, .lload 8, 66, 0), (66, .lconst 0, 67, 0), (67, .lcmp, 68, 0), (68, .ifCond .ne 7, 71, 75), (71, .iconst 1, 72, 0), (72, .goto 4, 75, 76), (75, .iconst 0, 76, 0), (76, .istore 10, 78, 0), (78, .iload 10, 80, 0), (80, .ifCond .eq 45, 83, 125), (83, .lload 4, 85, 0), (85, .lconst 0, 86, 0), (86, .lcmp, 87, 0), (87, .ifCond .eq 19, 90, 106), (90, .lload 4, 92, 0), (92, .lload 6, 94, 0), (94, .lcmp, 95, 0), (95, .ifCond .eq 30, 98, 125), (98, .lload 4, 100, 0), (100, .lload 8, 102, 0), (102, .lcmp, 103, 0), (103, .ifCond .eq 22, 106, 125), (106, .lload 6, 108, 0), (108, .lconst 0, 109, 0), (109, .lcmp, 110, 0), (110, .ifCond .eq 11, 113, 121), (113, .lload 6, 115, 0), (115, .lload 8, 117, 0), (117, .lcmp, 118, 0), (118, .ifCond .eq 7, 121, 125), (121, .iconst 1, 122, 0), (122, .goto 4, 125, 126), (125, .iconst 0, 126, 0), (126, .istore 10, 128, 0), (128, .lload 4, 130, 0), (130, .lconst 0, 131, 0), (131, .lcmp, 132, 0), (132, .ifCond .ne 7, 135, 139), (135, .iconst 0, 136, 0), (136, .goto 26, 139, 162), (139, .lload 6, 141, 0), (141, .lconst 0, 142, 0), (142, .lcmp, 143, 0), (143, .ifCond .ne 7, 146, 150), (146, .iconst 1, 147, 0), (147, .goto 15, 150, 162), (150, .lload 8, 152, 0), (152, .lconst 0, 153, 0), (153, .lcmp, 154, 0), (154, .ifCond .ne 7, 157, 161), (157, .iconst 2, 158, 0), (158, .goto 4, 161, 162), (161, .iconst 3, 162, 0), (162, .istore 11, 164, 0), (164, .iload 10, 166, 0), (166, .ifCond .eq 20, 169, 186), (169, .aload_n 0, 170, 0), (170, .lload_n 1, 171, 0), (171, .iload_n 3, 172, 0), (172, .iload 11, 174, 0), (174, .lload 4, 176, 0), (176, .lload 6, 178, 0), (178, .lload 8, 180, 0), (180, .invokevirtual 145, 183, 0), (183, .goto 4, 186, 187), (186, .iconst (-1), 187, 0), (187, .istore 12, 189, 0), (189, .aload_n 0, 190, 0), (190, .iload 10, 192, 0), (192, .ifCond .ne 7, 195, 199), (195, .iconst 1, 196, 0), (196, .goto 23, 199, 219), (199, .iload 12, 201, 0), (201, .iconst (-1), 202, 0), (202, .if_icmp .ne 16, 205, 218), (205, .aload_n 0, 206, 0), (206, .getfield 142, 209, 0), (209, .bipush 12, 211, 0), (211, .if_icmp .ne 7, 214, 218), (214, .iconst 2, 215, 0), (215, .goto 4, 218, 219), (218, .iconst 0, 219, 0), (219, .putfield 97, 222, 0), (222, .aload_n 0, 223, 0), (223, .getfield 97, 226, 0), (226, .ifCond .le 5, 229, 231), (229, .iconst 0, 230, 0), (230, .ireturn, 231, 0), (231, .iload 12, 233, 0), (233, .iconst (-1), 234, 0), (234, .if_icmp .eq 8, 237, 242), (237, .iload 12, 239, 0), (239, .goto 17, 242, 256), (242, .aload_n 0, 243, 0), (243, .lload_n 1, 244, 0), (244, .iload_n 3, 245, 0), (245, .iload 11, 247, 0), (247, .lload 4, 249, 0), (249, .lload 6, 251, 0), (251, .lload 8, 253, 0), (253, .invokevirtual 149, 256, 0), (256, .ireturn, 257, 0)]
def mX9_traits : Mt := (yX9_traits, cX9_traits, 13, (some .int), 9, tX9_traits)
def tX9_object : List (Nat × Rw) := [(0, .iload_n 1, 1, 0), (1, .ifCond .lt 15, 4, 16), (4, .iload_n 1, 5, 0), (5, .aload_n 0, 6, 0), (6, .getfield 142, 9, 0), (9, .if_icmp .ge 7, 12, 16), (12, .iconst 1, 13, 0), (13, .goto 4, 16, 17), (16, .iconst 0, 17, 0), (17, .istore_n 2, 18, 0), (18, .aload_n 0, 19, 0), (19, .iload_n 2, 20, 0), (20, .ifCond .ne 7, 23, 27), (23, .iconst 1, 24, 0), (24, .goto 17, 27, 41), (27, .aload_n 0, 28, 0), (28, .getfield 121, 31, 0), (31, .bipush 40, 33, 0), (33, .if_icmp .ne 7, 36, 40), (36, .iconst 2, 37, 0), (37, .goto 4, 40, 41), (40, .iconst 0, 41, 0), (41, .putfield 97, 44, 0), (44, .aload_n 0, 45, 0), (45, .getfield 97, 48, 0), (48, .ifCond .le 7, 51, 55), (51, .lconst 0, 52, 0), (52, .goto 21, 55, 73), (55, .aload_n 0, 56, 0), (56, .aload_n 0, 57, 0), (57, .bipush 10, 59, 0), (59, .lconst 0, 60, 0), (60, .aload_n 0, 61, 0), (61, .getfield 20, 64, 0), (64, .iload_n 1, 65, 0), (65, .iaload, 66, 0), (66, .iload_n 1, 67, 0), (67, .invokevirtual 134, 70, 0), (70, .invokevirtual 138, 73, 0), (73, .lreturn, 74, 0)]
def mX9_object : Mt := (yX9_object, cX9_object, 3, (some .long), 9, tX9_object)
def tX9_append : List (Nat × Rw) := [(0, .aload_n 0, 1, 0), (1, .iload_n 1, 2, 0), (2, .invokevirtual 152, 5, 0), (5, .ifCond .eq 26, 8, 31), (8, .aload_n 0, 9, 0), (9, .getfield 27, 12, 0), (12, .iload_n 1, 13, 0), (13, .iaload, 14, 0), (14, .bipush 9, 16, 0), (16, .if_icmp .ne 15, 19, 31), (19, .aload_n 0, 20, 0), (20, .lload_n 2, 21, 0), (21, .invokevirtual 156, 24, 0), (24, .ifCond .eq 7, 27, 31), (27, .iconst 1, 28, 0), (28, .goto 4, 31, 32), (31, .iconst 0, 32, 0), (32, .istore 4, 34, 0), (34, .aload_n 0, 35, 0), (35, .iload 4, 37, 0), (37, .ifCond .ne 7, 40, 44), (40, .iconst 1, 41, 0), (41, .goto 19, 44, 60), (44, .aload_n 0, 45, 0), (45, .getfield 33, 48, 0), (48, .iload_n 1, 49, 0), (49, .iaload, 50, 0), (50, .bipush 8, 52, 0), (52, .if_icmp .ne 7, 55, 59), (55, .iconst 2, 56, 0), (56, .goto 4, 59, 60), (59, .iconst 0, 60, 0), (60, .putfield 97, 63, 0), (63, .aload_n 0, 64, 0), (64, .getfield 97, 67, 0), (67, .ifCond .le 5, 70, 72), (70, .iconst 0, 71, 0), (71, .ireturn, 72, 0), (72, .aload_n 0, 73, 0), (73, .getfield 39, 76, 0), (76, .bipush 8, 78, 0), (78, .iload_n 1, 79, 0), (79, .imul, 80, 0), (80, .aload_n 0, 81, 0), (81, .getfield 33, 84, 0), (84, .iload_n 1, 85, 0), (85, .iaload, 86, 0), (86, .iadd, 87, 0), (87, .lload_n 2, 88, 0), (88, .lastore, 89, 0), (89, .aload_n 0, 90, 0), (90, .getfield 33, 93, 0), (93, .iload_n 1, 94, 0), (94, .dup2, 95, 0), (95, .iaload, 96, 0), (96, .iconst 1, 97, 0), (97, .iadd, 98, 0), (98, .iastore, 99, 0), (99, .aload_n 0, 100, 0), (100, .getfield 33, 103, 0), (103, .iload_n 1, 104, 0), (104, .iaload, 105, 0), (105, .ireturn, 106, 0)]
def mX9_append : Mt := (yX9_append, cX9_append, 5, (some .int), 9, tX9_append)
def tX9_hasItems : List (Nat × Rw) := [(0, .aload_n 0, 1, 0), (1, .iload_n 1, 2, 0), (2, .invokevirtual 152, 5, 0), (5, .ifCond .eq 29, 8, 34), (8, .aload_n 0, 9, 0), (9, .getfield 27, 12, 0), (12, .iload_n 1, 13, 0), (13, .iaload, 14, 0), (14, .bipush 9, 16, 0), (16, .if_icmp .eq 14, 19, 30), (19, .aload_n 0, 20, 0), (20, .getfield 27, 23, 0), (23, .iload_n 1, 24, 0), (24, .iaload, 25, 0), (25, .bipush 10, 27, 0), (27, .if_icmp .ne 7, 30, 34), (30, .iconst 1, 31, 0), (31, .goto 4, 34, 35), (34, .iconst 0, 35, 0), (35, .ireturn, 36, 0)]
def mX9_hasItems : Mt := (yX9_hasItems, cX9_hasItems, 2, (some .boolean), 9, tX9_hasItems)
def tX9_set : List (Nat × Rw) := [(0, .aload_n 0, 1, 0), (1, .iload_n 1, 2, 0), (2, .invokevirtual 159, 5, 0), (5, .ifCond .eq 41, 8, 46), (8, .iload_n 2, 9, 0), (9, .ifCond .lt 37, 12, 46), (12, .iload_n 2, 13, 0), (13, .aload_n 0, 14, 0), (14, .getfield 33, 17, 0), (17, .aload_n 0, 18, 0), (18, .iload_n 1, 19, 0), (19, .invokevirtual 159, 22, 0), (22, .ifCond .eq 7, 25, 29), (25, .iload_n 1, 26, 0), (26, .goto 4, 29, 30), (29, .iconst 0, 30, 0), (30, .iaload, 31, 0), (31, .if_icmp .ge 15, 34, 46), (34, .aload_n 0, 35, 0), (35, .lload_n 3, 36, 0), (36, .invokevirtual 156, 39, 0), (39, .ifCond .eq 7, 42, 46), (42, .iconst 1, 43, 0), (43, .goto 4, 46, 47), (46, .iconst 0, 47, 0), (47, .istore 5, 49, 0), (49, .aload_n 0, 50, 0), (50, .iload 5, 52, 0), (52, .ifCond .eq 7, 55, 59), (55, .iconst 0, 56, 0), (56, .goto 4, 59, 60), (59, .iconst 1, 60, 0), (60, .putfield 97, 63, 0), (63, .iload 5, 65, 0), (65, .ifCond .eq 15, 68, 80), (68, .aload_n 0, 69, 0), (69, .getfield 39, 72, 0), (72, .bipush 8, 74, 0), (74, .iload_n 1, 75, 0), (75, .imul, 76, 0), (76, .iload_n 2, 77, 0), (77, .iadd, 78, 0), (78, .lload_n 3, 79, 0), (79, .lastore, 80, 0), (80, .return_, 81, 0)]
def mX9_set : Mt := (yX9_set, cX9_set, 6, none, 9, tX9_set)
def tX9_hasPairs : List (Nat × Rw) := [(0, .aload_n 0, 1, 0), (1, .iload_n 1, 2, 0), (2, .invokevirtual 152, 5, 0), (5, .ifCond .eq 43, 8, 48), (8, .aload_n 0, 9, 0), (9, .getfield 27, 12, 0), (12, .iload_n 1, 13, 0), (13, .iaload, 14, 0), (14, .bipush 9, 16, 0), (16, .if_icmp .eq 28, 19, 44), (19, .aload_n 0, 20, 0), (20, .getfield 27, 23, 0), (23, .iload_n 1, 24, 0), (24, .iaload, 25, 0), (25, .bipush 10, 27, 0), (27, .if_icmp .ne 21, 30, 48), (30, .aload_n 0, 31, 0), (31, .getfield 16, 34, 0), (34, .aload_n 0, 35, 0), (35, .getfield 36, 38, 0), (38, .iload_n 1, 39, 0), (39, .iaload, 40, 0), (40, .baload, 41, 0), (41, .ifCond .eq 7, 44, 48), (44, .iconst 1, 45, 0), (45, .goto 4, 48, 49), (48, .iconst 0, 49, 0), (49, .ireturn, 50, 0)]
def mX9_hasPairs : Mt := (yX9_hasPairs, cX9_hasPairs, 2, (some .boolean), 9, tX9_hasPairs)
def tX9_isMember : List (Nat × Rw) := [(0, .iconst 0, 1, 0), (1, .istore 4, 3, 0), (3, .iconst 0, 4, 0), (4, .istore 5, 6, 0), (6, .aload_n 0, 7, 0), (7, .getfield 27, 10, 0), (10, .iload_n 1, 11, 0), (11, .iaload, 12, 0), (12, .bipush 10, 14, 0), (14, .if_icmp .ne 58, 17, 72), (17, .iload 5, 19, 0), (19, .aload_n 0, 20, 0), (20, .getfield 20, 23, 0), (23, .aload_n 0, 24, 0), (24, .getfield 36, 27, 0), (27, .iload_n 1, 28, 0), (28, .iaload, 29, 0), (29, .iaload, 30, 0), (30, .if_icmp .ge 42, 33, 72), (33, .iload 4, 35, 0), (35, .ifCond .ne 24, 38, 59), (38, .aload_n 0, 39, 0), (39, .getfield 24, 42, 0), (42, .iconst 3, 43, 0), (43, .aload_n 0, 44, 0), (44, .getfield 36, 47, 0), (47, .iload_n 1, 48, 0), (48, .iaload, 49, 0), (49, .imul, 50, 0), (50, .iload 5, 52, 0), (52, .iadd, 53, 0), (53, .laload, 54, 0), (54, .lload_n 2, 55, 0), (55, .lcmp, 56, 0), (56, .ifCond .ne 7, 59, 63), (59, .iconst 1, 60, 0), (60, .goto 4, 63, 64), (63, .iconst 0, 64, 0), (64, .istore 4, 66, 0), (66, .iinc 5 1, 69, 0), (69, .goto (-63), 72, 6), (72, .iload 4, 74, 0), (74, .ireturn, 75, 0)]
def mX9_isMember : Mt := (yX9_isMember, cX9_isMember, 6, (some .boolean), 9, tX9_isMember)
def tX9_pairAt : List (Nat × Rw) := [(0, .iconst (-1), 1, 0), (1, .istore 4, 3, 0), (3, .iconst 0, 4, 0), (4, .istore 5, 6, 0), (6, .iload 5, 8, 0), (8, .aload_n 0, 9, 0), (9, .getfield 42, 12, 0), (12, .iload_n 1, 13, 0), (13, .iaload, 14, 0), (14, .if_icmp .ge 35, 17, 49), (17, .aload_n 0, 18, 0), (18, .getfield 45, 21, 0), (21, .bipush 6, 23, 0), (23, .iload_n 1, 24, 0), (24, .imul, 25, 0), (25, .iload 5, 27, 0), (27, .iadd, 28, 0), (28, .laload, 29, 0), (29, .lload_n 2, 30, 0), (30, .lcmp, 31, 0), (31, .ifCond .ne 8, 34, 39), (34, .iload 5, 36, 0), (36, .goto 5, 39, 41), (39, .iload 4, 41, 0), (41, .istore 4, 43, 0), (43, .iinc 5 1, 46, 0), (46, .goto (-40), 49, 6), (49, .iload 4, 51, 0), (51, .ireturn, 52, 0)]
def mX9_pairAt : Mt := (yX9_pairAt, cX9_pairAt, 6, (some .int), 9, tX9_pairAt)
def tX9_put : List (Nat × Rw) := [(0, .aload_n 0, 1, 0), (1, .iload_n 1, 2, 0), (2, .invokevirtual 162, 5, 0), (5, .ifCond .eq 29, 8, 34), (8, .lload_n 2, 9, 0), (9, .lconst 0, 10, 0), (10, .lcmp, 11, 0), (11, .ifCond .eq 23, 14, 34), (14, .lload_n 2, 15, 0), (15, .invokestatic 117, 18, 0), (18, .ifCond .eq 16, 21, 34), (21, .aload_n 0, 22, 0), (22, .lload 4, 24, 0), (24, .invokevirtual 156, 27, 0), (27, .ifCond .eq 7, 30, 34), (30, .iconst 1, 31, 0), (31, .goto 4, 34, 35), (34, .iconst 0, 35, 0), (35, .istore 6, 37, 0), (37, .iload 6, 39, 0), (39, .ifCond .eq 25, 42, 64), (42, .aload_n 0, 43, 0), (43, .iload 6, 45, 0), (45, .ifCond .eq 7, 48, 52), (48, .iload_n 1, 49, 0), (49, .goto 4, 52, 53), (52, .iconst 0, 53, 0), (53, .lload_n 2, 54, 0), (54, .invokevirtual 165, 57, 0), (57, .ifCond .ne 7, 60, 64), (60, .iconst 1, 61, 0), (61, .goto 4, 64, 65), (64, .iconst 0, 65, 0), (65, .istore 6, 67, 0), (67, .iload 6, 69, 0), (69, .ifCond .eq 12, 72, 81), (72, .aload_n 0, 73, 0), (73, .iload_n 1, 74, 0), (74, .lload_n 2, 75, 0), (75, .invokevirtual 169, 78, 0), (78, .goto 4, 81, 82), (81, .iconst (-1), 82, 0), (82, .istore 7, 84, 0), (84, .aload_n 0, 85, 0), (85, .iload 6, 87, 0), (87, .ifCond .ne 7, 90, 94), (90, .iconst 1, 91, 0), (91, .goto 25, 94, 116), (94, .iload 7, 96, 0), (96, .iconst (-1), 97, 0), (97, .if_icmp .ne 18, 100, 115), (100, .aload_n 0, 101, 0), (101, .getfield 42, 104, 0), (104, .iload_n 1, 105, 0), (105, .iaload, 106, 0), (106, .bipush 6, 108, 0), (108, .if_icmp .ne 7, 111, 115), (111, .iconst 2, 112, 0), (112, .goto 4, 115, 116), (115, .iconst 0, 116, 0), (116, .putfield 97, 119, 0), (119, .aload_n 0, 120, 0), (120, .getfield 97, 123, 0), (123, .ifCond .le 5, 126, 128), (126, .iconst 0, 127, 0), (127, .ireturn, 128, 0), (128, .iload 7, 130, 0), (130, .iconst (-1), 131, 0), (131, .if_icmp .ne 34, 134, 165), (134, .aload_n 0, 135, 0), (135, .getfield 42, 138, 0), (138, .iload_n 1, 139, 0), (139, .iaload, 140, 0), (140, .istore 7, 142, 0), (142, .aload_n 0, 143, 0), (143, .getfield 45, 146, 0), (146, .bipush 6, 148, 0), (148, .iload_n 1, 149, 0), (149, .imul, 150, 0), (150, .iload 7, 152, 0), (152, .iadd, 153, 0), (153, .lload_n 2, 154, 0), (154, .lastore, 155, 0), (155, .aload_n 0, 156, 0), (156, .getfield 42, 159, 0), (159, .iload_n 1, 160, 0), (160, .dup2, 161, 0), (161, .iaload, 162, 0), (162, .iconst 1, 163, 0), (163, .iadd, 164, 0), (164, .iastore, 165, 0), (165, .aload_n 0, 166, 0), (166, .getfield 48, 169, 0), (169, .bipush 6, 171, 0), (171, .iload_n 1, 172, 0), (172, .imul, 173, 0), (173, .iload 7, 175, 0), (175, .iadd, 176, 0), (176, .lload 4, 178, 0), (178, .lastore, 179, 0), (179, .aload_n 0, 180, 0), (180, .getfield 42, 183, 0), (183, .iload_n 1, 184, 0), (184, .iaload, 185, 0), (185, .ireturn, 186, 0)]
def mX9_put : Mt := (yX9_put, cX9_put, 8, (some .int), 9, tX9_put)
def tX9_isAllowed : List (Nat × Rw) := [(0, .iconst 0, 1, 0), (1, .istore_n 3, 2, 0), (2, .iconst 0, 3, 0), (3, .istore 4, 5, 0), (5, .iload 4, 7, 0), (7, .aload_n 0, 8, 0), (8, .getfield 94, 11, 0), (11, .if_icmp .ge 31, 14, 42), (14, .iload_n 3, 15, 0), (15, .ifCond .ne 15, 18, 30), (18, .aload_n 0, 19, 0), (19, .getfield 51, 22, 0), (22, .iload 4, 24, 0), (24, .laload, 25, 0), (25, .lload_n 1, 26, 0), (26, .lcmp, 27, 0), (27, .ifCond .ne 7, 30, 34), (30, .iconst 1, 31, 0), (31, .goto 4, 34, 35), (34, .iconst 0, 35, 0), (35, .istore_n 3, 36, 0), (36, .iinc 4 1, 39, 0), (39, .goto (-34), 42, 5), (42, .iload_n 3, 43, 0), (43, .ireturn, 44, 0)]
def mX9_isAllowed : Mt := (yX9_isAllowed, cX9_isAllowed, 5, (some .boolean), 9, tX9_isAllowed)
def tX9_allow : List (Nat × Rw) := [(0, .aload_n 0, 1, 0), (1, .iconst 0, 2, 0), (2, .putfield 97, 5, 0), (5, .lload_n 1, 6, 0), (6, .invokestatic 117, 9, 0), (9, .ifCond .eq 20, 12, 29), (12, .aload_n 0, 13, 0), (13, .lload_n 1, 14, 0), (14, .invokevirtual 173, 17, 0), (17, .ifCond .ne 12, 20, 29), (20, .aload_n 0, 21, 0), (21, .getfield 94, 24, 0), (24, .bipush 7, 26, 0), (26, .if_icmp .ne 5, 29, 31), (29, .iconst 0, 30, 0), (30, .ireturn, 31, 0), (31, .aload_n 0, 32, 0), (32, .getfield 51, 35, 0), (35, .aload_n 0, 36, 0), (36, .getfield 94, 39, 0), (39, .lload_n 1, 40, 0), (40, .lastore, 41, 0), (41, .aload_n 0, 42, 0), (42, .dup, 43, 0), (43, .getfield 94, 46, 0), (46, .iconst 1, 47, 0), (47, .iadd, 48, 0), (48, .putfield 94, 51, 0), (51, .iconst 1, 52, 0), (52, .ireturn, 53, 0)]
def mX9_allow : Mt := (yX9_allow, cX9_allow, 3, (some .boolean), 9, tX9_allow)
def tX9_emit : List (Nat × Rw) := [(0, .aload_n 0, 1, 0), (1, .getfield 176, 4, 0), (4, .sipush 600, 7, 0), (7, .if_icmp .ge 16, 10, 23), (10, .aload_n 0, 11, 0), (11, .getfield 78, 14, 0), (14, .aload_n 0, 15, 0), (15, .getfield 176, 18, 0), (18, .iload_n 1, 19, 0), (19, .iastore, 20, 0), (20, .goto 8, 23, 28), (23, .aload_n 0, 24, 0), (24, .iconst 1, 25, 0), (25, .putfield 179, 28, 0), (28, .aload_n 0, 29, 0), (29, .dup, 30, 0), (30, .getfield 176, 33, 0), (33, .iconst 1, 34, 0), (34, .iadd, 35, 0), (35, .putfield 176, 38, 0), (38, .return_, 39, 0)]
def mX9_emit : Mt := (yX9_emit, cX9_emit, 2, none, 9, tX9_emit)
def tX9_emitNumber : List (Nat × Rw) := [(0, .iload_n 1, 1, 0), (1, .sipush 128, 4, 0), (4, .if_icmp .ge 11, 7, 15), (7, .aload_n 0, 8, 0), (8, .iload_n 1, 9, 0), (9, .invokevirtual 183, 12, 0), (12, .goto 137, 15, 149), (15, .iload_n 1, 16, 0), (16, .sipush 16384, 19, 0), (19, .if_icmp .ge 28, 22, 47), (22, .aload_n 0, 23, 0), (23, .sipush 128, 26, 0), (26, .iload_n 1, 27, 0), (27, .sipush 128, 30, 0), (30, .idiv, 31, 0), (31, .iadd, 32, 0), (32, .invokevirtual 183, 35, 0), (35, .aload_n 0, 36, 0), (36, .iload_n 1, 37, 0), (37, .sipush 128, 40, 0), (40, .irem, 41, 0), (41, .invokevirtual 183, 44, 0), (44, .goto 105, 47, 149), (47, .iload_n 1, 48, 0), (48, .ldc 187, 50, 0), (50, .if_icmp .ge 45, 53, 95), (53, .aload_n 0, 54, 0), (54, .sipush 128, 57, 0), (57, .iload_n 1, 58, 0), (58, .sipush 16384, 61, 0), (61, .idiv, 62, 0), (62, .iadd, 63, 0), (63, .invokevirtual 183, 66, 0), (66, .aload_n 0, 67, 0), (67, .sipush 128, 70, 0), (70, .iload_n 1, 71, 0), (71, .sipush 128, 74, 0), (74, .idiv, 75, 0), (75, .sipush 128, 78, 0), (78, .irem, 79, 0), (79, .iadd, 80, 0), (80, .invokevirtual 183, 83, 0), (83, .aload_n 0, 84, 0), (84, .iload_n 1, 85, 0), (85, .sipush 128, 88, 0), (88, .irem, 89, 0), (89, .invokevirtual 183, 92, 0), (92, .goto 57, 95, 149), (95, .aload_n 0, 96, 0), (96, .sipush 128, 99, 0), (99, .iload_n 1, 100, 0), (100, .ldc 188, 102, 0), (102, .idiv, 103, 0), (103, .iadd, 104, 0), (104, .invokevirtual 183, 107, 0), (107, .aload_n 0, 108, 0), (108, .sipush 128, 111, 0), (111, .iload_n 1, 112, 0), (112, .ldc 189, 114, 0), (114, .idiv, 115, 0), (115, .sipush 128, 118, 0), (118, .irem, 119, 0), (119, .iadd, 120, 0), (120, .invokevirtual 183, 123, 0), (123, .aload_n 0, 124, 0), (124, .sipush 128, 127, 0), (127, .iload_n 1, 128, 0), (128, .sipush 256, 131, 0), (131, .idiv, 132, 0), (132, .sipush 128, 135, 0), (135, .irem, 136, 0), (136, .iadd, 137, 0), (137, .invokevirtual 183, 140, 0), (140, .aload_n 0, 141, 0), (141, .iload_n 1, 142, 0), (142, .sipush 256, 145, 0), (145, .irem, 146, 0), (146, .invokevirtual 183, 149, 0), (149, .return_, 150, 0)]
def mX9_emitNumber : Mt := (yX9_emitNumber, cX9_emitNumber, 2, none, 9, tX9_emitNumber)
def tX9_emitEight : List (Nat × Rw) := [(0, .bipush 56, 2, 0), (2, .istore_n 3, 3, 0), (3, .iload_n 3, 4, 0), (4, .ifCond .lt 21, 7, 25), (7, .aload_n 0, 8, 0), (8, .lload_n 1, 9, 0), (9, .iload_n 3, 10, 0), (10, .lushr, 11, 0), (11, .ldc2_w 104, 14, 0), (14, .land, 15, 0), (15, .l2i, 16, 0), (16, .invokevirtual 183, 19, 0), (19, .iinc 3 (-8), 22, 0), (22, .goto (-19), 25, 3), (25, .return_, 26, 0)]
def mX9_emitEight : Mt := (yX9_emitEight, cX9_emitEight, 4, none, 9, tX9_emitEight)
def tX9_emitString : List (Nat × Rw) := [(0, .lload_n 1, 1, 0), (1, .lconst 0, 2, 0), (2, .lcmp, 3, 0), (3, .ifCond .ne 9, 6, 12), (6, .aload_n 0, 7, 0), (7, .iconst 1, 8, 0), (8, .invokevirtual 190, 11, 0), (11, .return_, 12, 0), (12, .iconst 0, 13, 0), (13, .istore_n 3, 14, 0), (14, .iload_n 3, 15, 0), (15, .aload_n 0, 16, 0), (16, .getfield 193, 19, 0), (19, .if_icmp .ge 28, 22, 47), (22, .aload_n 0, 23, 0), (23, .getfield 57, 26, 0), (26, .iload_n 3, 27, 0), (27, .laload, 28, 0), (28, .lload_n 1, 29, 0), (29, .lcmp, 30, 0), (30, .ifCond .ne 11, 33, 41), (33, .aload_n 0, 34, 0), (34, .iconst 2, 35, 0), (35, .iload_n 3, 36, 0), (36, .imul, 37, 0), (37, .invokevirtual 190, 40, 0), (40, .return_, 41, 0), (41, .iinc 3 1, 44, 0), (44, .goto (-30), 47, 14), (47, .lload_n 1, 48, 0), (48, .invokestatic 100, 51, 0), (51, .istore_n 3, 52, 0), (52, .aload_n 0, 53, 0), (53, .iconst 2, 54, 0), (54, .iload_n 3, 55, 0), (55, .imul, 56, 0), (56, .iconst 1, 57, 0), (57, .iadd, 58, 0), (58, .invokevirtual 190, 61, 0), (61, .iconst 0, 62, 0), (62, .istore 4, 64, 0), (64, .iload 4, 66, 0), (66, .iload_n 3, 67, 0), (67, .if_icmp .ge 25, 70, 92), (70, .aload_n 0, 71, 0), (71, .lload_n 1, 72, 0), (72, .bipush 8, 74, 0), (74, .iload 4, 76, 0), (76, .imul, 77, 0), (77, .lushr, 78, 0), (78, .ldc2_w 104, 81, 0), (81, .land, 82, 0), (82, .l2i, 83, 0), (83, .invokevirtual 183, 86, 0), (86, .iinc 4 1, 89, 0), (89, .goto (-25), 92, 64), (92, .aload_n 0, 93, 0), (93, .getfield 57, 96, 0), (96, .aload_n 0, 97, 0), (97, .getfield 193, 100, 0), (100, .lload_n 1, 101, 0), (101, .lastore, 102, 0), (102, .aload_n 0, 103, 0), (103, .dup, 104, 0), (104, .getfield 193, 107, 0), (107, .iconst 1, 108, 0), (108, .iadd, 109, 0), (109, .putfield 193, 112, 0), (112, .return_, 113, 0)]
def mX9_emitString : Mt := (yX9_emitString, cX9_emitString, 5, none, 9, tX9_emitString)
def tX9_push : List (Nat × Rw) := [(0, .aload_n 0, 1, 0), (1, .getfield 66, 4, 0), (4, .aload_n 0, 5, 0), (5, .getfield 196, 8, 0), (8, .iload_n 1, 9, 0), (9, .iastore, 10, 0), (10, .aload_n 0, 11, 0), (11, .getfield 69, 14, 0), (14, .aload_n 0, 15, 0), (15, .getfield 196, 18, 0), (18, .iconst 0, 19, 0), (19, .iastore, 20, 0), (20, .aload_n 0, 21, 0), (21, .getfield 72, 24, 0), (24, .aload_n 0, 25, 0), (25, .getfield 196, 28, 0), (28, .iconst 0, 29, 0), (29, .iastore, 30, 0), (30, .aload_n 0, 31, 0), (31, .getfield 75, 34, 0), (34, .aload_n 0, 35, 0), (35, .getfield 196, 38, 0), (38, .aload_n 0, 39, 0), (39, .iload_n 1, 40, 0), (40, .invokevirtual 162, 43, 0), (43, .ifCond .ne 7, 46, 50), (46, .iconst 1, 47, 0), (47, .goto 4, 50, 51), (50, .iconst 0, 51, 0), (51, .bastore, 52, 0), (52, .aload_n 0, 53, 0), (53, .dup, 54, 0), (54, .getfield 196, 57, 0), (57, .iconst 1, 58, 0), (58, .iadd, 59, 0), (59, .putfield 196, 62, 0), (62, .return_, 63, 0)]
def mX9_push : Mt := (yX9_push, cX9_push, 2, none, 9, tX9_push)
def tX9_emitTraits : List (Nat × Rw) := [(0, .iconst 0, 1, 0), (1, .istore_n 2, 2, 0), (2, .iload_n 2, 3, 0), (3, .aload_n 0, 4, 0), (4, .getfield 220, 7, 0), (7, .if_icmp .ge 29, 10, 36), (10, .aload_n 0, 11, 0), (11, .getfield 63, 14, 0), (14, .iload_n 2, 15, 0), (15, .iaload, 16, 0), (16, .iload_n 1, 17, 0), (17, .if_icmp .ne 13, 20, 30), (20, .aload_n 0, 21, 0), (21, .iconst 4, 22, 0), (22, .iload_n 2, 23, 0), (23, .imul, 24, 0), (24, .iconst 1, 25, 0), (25, .iadd, 26, 0), (26, .invokevirtual 190, 29, 0), (29, .return_, 30, 0), (30, .iinc 2 1, 33, 0), (33, .goto (-31), 36, 2), (36, .aload_n 0, 37, 0), (37, .getfield 63, 40, 0), (40, .aload_n 0, 41, 0), (41, .getfield 220, 44, 0), (44, .iload_n 1, 45, 0), (45, .iastore, 46, 0), (46, .aload_n 0, 47, 0), (47, .dup, 48, 0), (48, .getfield 220, 51, 0), (51, .iconst 1, 52, 0), (52, .iadd, 53, 0), (53, .putfield 220, 56, 0), (56, .aload_n 0, 57, 0), (57, .bipush 16, 59, 0), (59, .aload_n 0, 60, 0), (60, .getfield 20, 63, 0), (63, .iload_n 1, 64, 0), (64, .iaload, 65, 0), (65, .imul, 66, 0), (66, .aload_n 0, 67, 0), (67, .getfield 16, 70, 0), (70, .iload_n 1, 71, 0), (71, .baload, 72, 0), (72, .ifCond .eq 8, 75, 80), (75, .bipush 8, 77, 0), (77, .goto 4, 80, 81), (80, .iconst 0, 81, 0), (81, .iadd, 82, 0), (82, .iconst 3, 83, 0), (83, .iadd, 84, 0), (84, .invokevirtual 190, 87, 0), (87, .aload_n 0, 88, 0), (88, .aload_n 0, 89, 0), (89, .getfield 13, 92, 0), (92, .iload_n 1, 93, 0), (93, .laload, 94, 0), (94, .invokevirtual 205, 97, 0), (97, .iconst 0, 98, 0), (98, .istore_n 2, 99, 0), (99, .iload_n 2, 100, 0), (100, .aload_n 0, 101, 0), (101, .getfield 20, 104, 0), (104, .iload_n 1, 105, 0), (105, .iaload, 106, 0), (106, .if_icmp .ge 23, 109, 129), (109, .aload_n 0, 110, 0), (110, .aload_n 0, 111, 0), (111, .getfield 24, 114, 0), (114, .iconst 3, 115, 0), (115, .iload_n 1, 116, 0), (116, .imul, 117, 0), (117, .iload_n 2, 118, 0), (118, .iadd, 119, 0), (119, .laload, 120, 0), (120, .invokevirtual 205, 123, 0), (123, .iinc 2 1, 126, 0), (126, .goto (-27), 129, 99), (129, .return_, 130, 0)]
def mX9_emitTraits : Mt := (yX9_emitTraits, cX9_emitTraits, 3, none, 9, tX9_emitTraits)
def tX9_emitThing : List (Nat × Rw) := [(0, .aload_n 0, 1, 0), (1, .aload_n 0, 2, 0), (2, .getfield 27, 5, 0), (5, .iload_n 1, 6, 0), (6, .iaload, 7, 0), (7, .invokevirtual 183, 10, 0), (10, .iconst 0, 11, 0), (11, .istore_n 2, 12, 0), (12, .iload_n 2, 13, 0), (13, .aload_n 0, 14, 0), (14, .getfield 211, 17, 0), (17, .if_icmp .ge 27, 20, 44), (20, .aload_n 0, 21, 0), (21, .getfield 60, 24, 0), (24, .iload_n 2, 25, 0), (25, .iaload, 26, 0), (26, .iload_n 1, 27, 0), (27, .if_icmp .ne 11, 30, 38), (30, .aload_n 0, 31, 0), (31, .iconst 2, 32, 0), (32, .iload_n 2, 33, 0), (33, .imul, 34, 0), (34, .invokevirtual 190, 37, 0), (37, .return_, 38, 0), (38, .iinc 2 1, 41, 0), (41, .goto (-29), 44, 12), (44, .aload_n 0, 45, 0), (45, .getfield 196, 48, 0), (48, .bipush 12, 50, 0), (50, .if_icmp .ne 9, 53, 59), (53, .aload_n 0, 54, 0), (54, .iconst 1, 55, 0), (55, .putfield 179, 58, 0), (58, .return_, 59, 0), (59, .aload_n 0, 60, 0), (60, .getfield 60, 63, 0), (63, .aload_n 0, 64, 0), (64, .getfield 211, 67, 0), (67, .iload_n 1, 68, 0), (68, .iastore, 69, 0), (69, .aload_n 0, 70, 0), (70, .dup, 71, 0), (71, .getfield 211, 74, 0), (74, .iconst 1, 75, 0), (75, .iadd, 76, 0), (76, .putfield 211, 79, 0), (79, .aload_n 0, 80, 0), (80, .getfield 27, 83, 0), (83, .iload_n 1, 84, 0), (84, .iaload, 85, 0), (85, .bipush 8, 87, 0), (87, .if_icmp .ne 21, 90, 108), (90, .aload_n 0, 91, 0), (91, .iconst 1, 92, 0), (92, .invokevirtual 190, 95, 0), (95, .aload_n 0, 96, 0), (96, .aload_n 0, 97, 0), (97, .getfield 30, 100, 0), (100, .iload_n 1, 101, 0), (101, .laload, 102, 0), (102, .invokevirtual 201, 105, 0), (105, .goto 117, 108, 222), (108, .aload_n 0, 109, 0), (109, .getfield 27, 112, 0), (112, .iload_n 1, 113, 0), (113, .iaload, 114, 0), (114, .bipush 12, 116, 0), (116, .if_icmp .ne 58, 119, 174), (119, .aload_n 0, 120, 0), (120, .iconst 2, 121, 0), (121, .aload_n 0, 122, 0), (122, .getfield 33, 125, 0), (125, .iload_n 1, 126, 0), (126, .iaload, 127, 0), (127, .imul, 128, 0), (128, .iconst 1, 129, 0), (129, .iadd, 130, 0), (130, .invokevirtual 190, 133, 0), (133, .iconst 0, 134, 0), (134, .istore_n 2, 135, 0), (135, .iload_n 2, 136, 0), (136, .aload_n 0, 137, 0), (137, .getfield 33, 140, 0), (140, .iload_n 1, 141, 0), (141, .iaload, 142, 0), (142, .if_icmp .ge 29, 145, 171), (145, .aload_n 0, 146, 0), (146, .aload_n 0, 147, 0), (147, .getfield 30, 150, 0), (150, .iload_n 1, 151, 0), (151, .laload, 152, 0), (152, .bipush 8, 154, 0), (154, .iload_n 2, 155, 0), (155, .imul, 156, 0), (156, .lushr, 157, 0), (157, .ldc2_w 104, 160, 0), (160, .land, 161, 0), (161, .l2i, 162, 0), (162, .invokevirtual 183, 165, 0), (165, .iinc 2 1, 168, 0), (168, .goto (-33), 171, 135), (171, .goto 51, 174, 222), (174, .aload_n 0, 175, 0), (175, .getfield 27, 178, 0), (178, .iload_n 1, 179, 0), (179, .iaload, 180, 0), (180, .bipush 9, 182, 0), (182, .if_icmp .ne 25, 185, 207), (185, .aload_n 0, 186, 0), (186, .iconst 2, 187, 0), (187, .aload_n 0, 188, 0), (188, .getfield 33, 191, 0), (191, .iload_n 1, 192, 0), (192, .iaload, 193, 0), (193, .imul, 194, 0), (194, .iconst 1, 195, 0), (195, .iadd, 196, 0), (196, .invokevirtual 190, 199, 0), (199, .aload_n 0, 200, 0), (200, .iload_n 1, 201, 0), (201, .invokevirtual 214, 204, 0), (204, .goto 18, 207, 222), (207, .aload_n 0, 208, 0), (208, .aload_n 0, 209, 0), (209, .getfield 36, 212, 0), (212, .iload_n 1, 213, 0), (213, .iaload, 214, 0), (214, .invokevirtual 217, 217, 0), (217, .aload_n 0, 218, 0), (218, .iload_n 1, 219, 0), (219, .invokevirtual 214, 222, 0), (222, .return_, 223, 0)]
def mX9_emitThing : Mt := (yX9_emitThing, cX9_emitThing, 3, none, 9, tX9_emitThing)
def tX9_emitValue : List (Nat × Rw) := [(0, .lload_n 1, 1, 0), (1, .ldc2_w 108, 4, 0), (4, .land, 5, 0), (5, .l2i, 6, 0), (6, .istore_n 3, 7, 0), (7, .lload_n 1, 8, 0), (8, .iconst 4, 9, 0), (9, .lshr, 10, 0), (10, .lstore 4, 12, 0), (12, .iload_n 3, 13, 0), (13, .iconst 4, 14, 0), (14, .if_icmp .ge 11, 17, 25), (17, .aload_n 0, 18, 0), (18, .iload_n 3, 19, 0), (19, .invokevirtual 183, 22, 0), (22, .goto 92, 25, 114), (25, .iload_n 3, 26, 0), (26, .iconst 4, 27, 0), (27, .if_icmp .ne 34, 30, 61), (30, .aload_n 0, 31, 0), (31, .iconst 4, 32, 0), (32, .invokevirtual 183, 35, 0), (35, .aload_n 0, 36, 0), (36, .lload 4, 38, 0), (38, .lconst 0, 39, 0), (39, .lcmp, 40, 0), (40, .ifCond .ge 12, 43, 52), (43, .lload 4, 45, 0), (45, .ldc2_w 199, 48, 0), (48, .ladd, 49, 0), (49, .goto 5, 52, 54), (52, .lload 4, 54, 0), (54, .l2i, 55, 0), (55, .invokevirtual 190, 58, 0), (58, .goto 56, 61, 114), (61, .iload_n 3, 62, 0), (62, .iconst 5, 63, 0), (63, .if_icmp .ne 23, 66, 86), (66, .aload_n 0, 67, 0), (67, .iconst 5, 68, 0), (68, .invokevirtual 183, 71, 0), (71, .aload_n 0, 72, 0), (72, .aload_n 0, 73, 0), (73, .getfield 7, 76, 0), (76, .lload 4, 78, 0), (78, .l2i, 79, 0), (79, .laload, 80, 0), (80, .invokevirtual 201, 83, 0), (83, .goto 31, 86, 114), (86, .iload_n 3, 87, 0), (87, .bipush 6, 89, 0), (89, .if_icmp .ne 18, 92, 107), (92, .aload_n 0, 93, 0), (93, .bipush 6, 95, 0), (95, .invokevirtual 183, 98, 0), (98, .aload_n 0, 99, 0), (99, .lload 4, 101, 0), (101, .invokevirtual 205, 104, 0), (104, .goto 10, 107, 114), (107, .aload_n 0, 108, 0), (108, .lload 4, 110, 0), (110, .l2i, 111, 0), (111, .invokevirtual 208, 114, 0), (114, .return_, 115, 0)]
def mX9_emitValue : Mt := (yX9_emitValue, cX9_emitValue, 6, none, 9, tX9_emitValue)
def tX9_goOn : List (Nat × Rw) := [(0, .aload_n 0, 1, 0), (1, .getfield 196, 4, 0), (4, .iconst 1, 5, 0), (5, .isub, 6, 0), (6, .istore_n 1, 7, 0), (7, .aload_n 0, 8, 0), (8, .getfield 66, 11, 0), (11, .iload_n 1, 12, 0), (12, .iaload, 13, 0), (13, .istore_n 2, 14, 0), (14, .aload_n 0, 15, 0), (15, .getfield 69, 18, 0), (18, .iload_n 1, 19, 0), (19, .iaload, 20, 0), (20, .aload_n 0, 21, 0), (21, .getfield 33, 24, 0), (24, .iload_n 2, 25, 0), (25, .iaload, 26, 0), (26, .if_icmp .ge 7, 29, 33), (29, .iconst 1, 30, 0), (30, .goto 4, 33, 34), (33, .iconst 0, 34, 0), (34, .istore_n 3, 35, 0), (35, .aload_n 0, 36, 0), (36, .getfield 75, 39, 0), (39, .iload_n 1, 40, 0), (40, .baload, 41, 0), (41, .ifCond .ne 22, 44, 63), (44, .aload_n 0, 45, 0), (45, .getfield 27, 48, 0), (48, .iload_n 2, 49, 0), (49, .iaload, 50, 0), (50, .bipush 9, 52, 0), (52, .if_icmp .eq 7, 55, 59), (55, .iload_n 3, 56, 0), (56, .ifCond .ne 7, 59, 63), (59, .iconst 1, 60, 0), (60, .goto 4, 63, 64), (63, .iconst 0, 64, 0), (64, .istore 4, 66, 0), (66, .iload 4, 68, 0), (68, .ifCond .eq 82, 71, 150), (71, .aload_n 0, 72, 0), (72, .getfield 72, 75, 0), (75, .iload_n 1, 76, 0), (76, .iaload, 77, 0), (77, .istore 5, 79, 0), (79, .iload 5, 81, 0), (81, .aload_n 0, 82, 0), (82, .getfield 42, 85, 0), (85, .iload_n 2, 86, 0), (86, .iaload, 87, 0), (87, .if_icmp .ge 48, 90, 135), (90, .aload_n 0, 91, 0), (91, .getfield 72, 94, 0), (94, .iload_n 1, 95, 0), (95, .dup2, 96, 0), (96, .iaload, 97, 0), (97, .iconst 1, 98, 0), (98, .iadd, 99, 0), (99, .iastore, 100, 0), (100, .aload_n 0, 101, 0), (101, .aload_n 0, 102, 0), (102, .getfield 45, 105, 0), (105, .bipush 6, 107, 0), (107, .iload_n 2, 108, 0), (108, .imul, 109, 0), (109, .iload 5, 111, 0), (111, .iadd, 112, 0), (112, .laload, 113, 0), (113, .invokevirtual 205, 116, 0), (116, .aload_n 0, 117, 0), (117, .aload_n 0, 118, 0), (118, .getfield 48, 121, 0), (121, .bipush 6, 123, 0), (123, .iload_n 2, 124, 0), (124, .imul, 125, 0), (125, .iload 5, 127, 0), (127, .iadd, 128, 0), (128, .laload, 129, 0), (129, .invokevirtual 223, 132, 0), (132, .goto 15, 135, 147), (135, .aload_n 0, 136, 0), (136, .lconst 0, 137, 0), (137, .invokevirtual 205, 140, 0), (140, .aload_n 0, 141, 0), (141, .getfield 75, 144, 0), (144, .iload_n 1, 145, 0), (145, .iconst 1, 146, 0), (146, .bastore, 147, 0), (147, .goto 52, 150, 199), (150, .iload_n 3, 151, 0), (151, .ifCond .eq 38, 154, 189), (154, .aload_n 0, 155, 0), (155, .getfield 69, 158, 0), (158, .iload_n 1, 159, 0), (159, .dup2, 160, 0), (160, .iaload, 161, 0), (161, .iconst 1, 162, 0), (162, .iadd, 163, 0), (163, .iastore, 164, 0), (164, .aload_n 0, 165, 0), (165, .aload_n 0, 166, 0), (166, .getfield 39, 169, 0), (169, .bipush 8, 171, 0), (171, .iload_n 2, 172, 0), (172, .imul, 173, 0), (173, .aload_n 0, 174, 0), (174, .getfield 69, 177, 0), (177, .iload_n 1, 178, 0), (178, .iaload, 179, 0), (179, .iadd, 180, 0), (180, .iconst 1, 181, 0), (181, .isub, 182, 0), (182, .laload, 183, 0), (183, .invokevirtual 223, 186, 0), (186, .goto 13, 189, 199), (189, .aload_n 0, 190, 0), (190, .dup, 191, 0), (191, .getfield 196, 194, 0), (194, .iconst 1, 195, 0), (195, .isub, 196, 0), (196, .putfield 196, 199, 0), (199, .return_, 200, 0)]
def mX9_goOn : Mt := (yX9_goOn, cX9_goOn, 6, none, 9, tX9_goOn)
def tX9_clearLists : List (Nat × Rw) := [(0, .aload_n 0, 1, 0), (1, .iconst 0, 2, 0), (2, .putfield 193, 5, 0), (5, .aload_n 0, 6, 0), (6, .iconst 0, 7, 0), (7, .putfield 211, 10, 0), (10, .aload_n 0, 11, 0), (11, .iconst 0, 12, 0), (12, .putfield 220, 15, 0), (15, .aload_n 0, 16, 0), (16, .iconst 0, 17, 0), (17, .putfield 196, 20, 0), (20, .return_, 21, 0)]
def mX9_clearLists : Mt := (yX9_clearLists, cX9_clearLists, 1, none, 9, tX9_clearLists)
def tX9_encode : List (Nat × Rw) := [(0, .aload_n 0, 1, 0), (1, .aload_n 0, 2, 0), (2, .lload_n 1, 3, 0), (3, .invokevirtual 156, 6, 0), (6, .ifCond .eq 7, 9, 13), (9, .iconst 0, 10, 0), (10, .goto 4, 13, 14), (13, .iconst 1, 14, 0), (14, .putfield 97, 17, 0), (17, .aload_n 0, 18, 0), (18, .getfield 97, 21, 0), (21, .ifCond .le 5, 24, 26), (24, .iconst 0, 25, 0), (25, .ireturn, 26, 0), (26, .aload_n 0, 27, 0), (27, .invokevirtual 226, 30, 0), (30, .aload_n 0, 31, 0), (31, .iconst 0, 32, 0), (32, .putfield 176, 35, 0), (35, .aload_n 0, 36, 0), (36, .iconst 0, 37, 0), (37, .putfield 179, 40, 0), (40, .aload_n 0, 41, 0), (41, .lload_n 1, 42, 0), (42, .invokevirtual 223, 45, 0), (45, .aload_n 0, 46, 0), (46, .getfield 196, 49, 0), (49, .ifCond .le 17, 52, 66), (52, .aload_n 0, 53, 0), (53, .getfield 179, 56, 0), (56, .ifCond .ne 10, 59, 66), (59, .aload_n 0, 60, 0), (60, .invokevirtual 229, 63, 0), (63, .goto (-18), 66, 45), (66, .aload_n 0, 67, 0), (67, .getfield 179, 70, 0), (70, .ifCond .eq 10, 73, 80), (73, .aload_n 0, 74, 0), (74, .iconst 2, 75, 0), (75, .putfield 97, 78, 0), (78, .iconst 0, 79, 0), (79, .ireturn, 80, 0), (80, .aload_n 0, 81, 0), (81, .aload_n 0, 82, 0), (82, .getfield 176, 85, 0), (85, .putfield 232, 88, 0), (88, .iconst 0, 89, 0), (89, .istore_n 3, 90, 0), (90, .iload_n 3, 91, 0), (91, .aload_n 0, 92, 0), (92, .getfield 232, 95, 0), (95, .if_icmp .ge 21, 98, 116), (98, .aload_n 0, 99, 0), (99, .getfield 54, 102, 0), (102, .iload_n 3, 103, 0), (103, .aload_n 0, 104, 0), (104, .getfield 78, 107, 0), (107, .iload_n 3, 108, 0), (108, .iaload, 109, 0), (109, .iastore, 110, 0), (110, .iinc 3 1, 113, 0), (113, .goto (-23), 116, 90), (116, .aload_n 0, 117, 0), (117, .getfield 232, 120, 0), (120, .ireturn, 121, 0)]
def mX9_encode : Mt := (yX9_encode, cX9_encode, 4, (some .int), 9, tX9_encode)
def tX9_stopAt : List (Nat × Rw) := [(0, .aload_n 0, 1, 0), (1, .aload_n 0, 2, 0), (2, .getfield 235, 5, 0), (5, .iconst (-1), 6, 0), (6, .if_icmp .ne 7, 9, 13), (9, .iload_n 1, 10, 0), (10, .goto 7, 13, 17), (13, .aload_n 0, 14, 0), (14, .getfield 235, 17, 0), (17, .putfield 235, 20, 0), (20, .return_, 21, 0)]
def mX9_stopAt : Mt := (yX9_stopAt, cX9_stopAt, 2, none, 9, tX9_stopAt)
def tX9_goes : List (Nat × Rw) := [(0, .aload_n 0, 1, 0), (1, .getfield 235, 4, 0), (4, .iconst (-1), 5, 0), (5, .if_icmp .ne 7, 8, 12), (8, .iconst 1, 9, 0), (9, .goto 4, 12, 13), (12, .iconst 0, 13, 0), (13, .ireturn, 14, 0)]
def mX9_goes : Mt := (yX9_goes, cX9_goes, 1, (some .boolean), 9, tX9_goes)
def tX9_take : List (Nat × Rw) := [(0, .aload_n 0, 1, 0), (1, .invokevirtual 238, 4, 0), (4, .ifCond .ne 5, 7, 9), (7, .iconst 0, 8, 0), (8, .ireturn, 9, 0), (9, .aload_n 0, 10, 0), (10, .getfield 242, 13, 0), (13, .aload_n 0, 14, 0), (14, .getfield 232, 17, 0), (17, .if_icmp .lt 13, 20, 30), (20, .aload_n 0, 21, 0), (21, .aload_n 0, 22, 0), (22, .getfield 232, 25, 0), (25, .invokevirtual 245, 28, 0), (28, .iconst 0, 29, 0), (29, .ireturn, 30, 0), (30, .aload_n 0, 31, 0), (31, .dup, 32, 0), (32, .getfield 242, 35, 0), (35, .iconst 1, 36, 0), (36, .iadd, 37, 0), (37, .putfield 242, 40, 0), (40, .aload_n 0, 41, 0), (41, .getfield 54, 44, 0), (44, .aload_n 0, 45, 0), (45, .getfield 242, 48, 0), (48, .iconst 1, 49, 0), (49, .isub, 50, 0), (50, .iaload, 51, 0), (51, .ireturn, 52, 0)]
def mX9_take : Mt := (yX9_take, cX9_take, 1, (some .int), 9, tX9_take)
def tX9_takeNumber : List (Nat × Rw) := [(0, .iconst 0, 1, 0), (1, .istore_n 1, 2, 0), (2, .iconst 0, 3, 0), (3, .istore_n 2, 4, 0), (4, .iload_n 2, 5, 0), (5, .iconst 4, 6, 0), (6, .if_icmp .ge 45, 9, 51), (9, .aload_n 0, 10, 0), (10, .invokevirtual 248, 13, 0), (13, .istore_n 3, 14, 0), (14, .iload_n 2, 15, 0), (15, .iconst 3, 16, 0), (16, .if_icmp .ne 10, 19, 26), (19, .iload_n 1, 20, 0), (20, .bipush 8, 22, 0), (22, .ishl, 23, 0), (23, .iload_n 3, 24, 0), (24, .ior, 25, 0), (25, .ireturn, 26, 0), (26, .iload_n 1, 27, 0), (27, .bipush 7, 29, 0), (29, .ishl, 30, 0), (30, .iload_n 3, 31, 0), (31, .bipush 127, 33, 0), (33, .iand, 34, 0), (34, .ior, 35, 0), (35, .istore_n 1, 36, 0), (36, .iload_n 3, 37, 0), (37, .sipush 128, 40, 0), (40, .if_icmp .ge 5, 43, 45), (43, .iload_n 1, 44, 0), (44, .ireturn, 45, 0), (45, .iinc 2 1, 48, 0), (48, .goto (-44), 51, 4), (51, .iload_n 1, 52, 0), (52, .ireturn, 53, 0)]
def mX9_takeNumber : Mt := (yX9_takeNumber, cX9_takeNumber, 4, (some .int), 9, tX9_takeNumber)
def tX9_takeEight : List (Nat × Rw) := [(0, .lconst 0, 1, 0), (1, .lstore_n 1, 2, 0), (2, .iconst 0, 3, 0), (3, .istore_n 3, 4, 0), (4, .iload_n 3, 5, 0), (5, .bipush 8, 7, 0), (7, .if_icmp .ge 20, 10, 27), (10, .lload_n 1, 11, 0), (11, .bipush 8, 13, 0), (13, .lshl, 14, 0), (14, .aload_n 0, 15, 0), (15, .invokevirtual 248, 18, 0), (18, .i2l, 19, 0), (19, .lor, 20, 0), (20, .lstore_n 1, 21, 0), (21, .iinc 3 1, 24, 0), (24, .goto (-20), 27, 4), (27, .lload_n 1, 28, 0), (28, .lreturn, 29, 0)]
def mX9_takeEight : Mt := (yX9_takeEight, cX9_takeEight, 4, (some .long), 9, tX9_takeEight)
def tX9_takeString : List (Nat × Rw) := [(0, .aload_n 0, 1, 0), (1, .getfield 242, 4, 0), (4, .istore_n 1, 5, 0), (5, .aload_n 0, 6, 0), (6, .invokevirtual 252, 9, 0), (9, .istore_n 2, 10, 0), (10, .aload_n 0, 11, 0), (11, .invokevirtual 238, 14, 0), (14, .ifCond .ne 5, 17, 19), (17, .lconst 0, 18, 0), (18, .lreturn, 19, 0), (19, .iload_n 2, 20, 0), (20, .iconst 2, 21, 0), (21, .irem, 22, 0), (22, .ifCond .ne 29, 25, 51), (25, .iload_n 2, 26, 0), (26, .iconst 2, 27, 0), (27, .idiv, 28, 0), (28, .aload_n 0, 29, 0), (29, .getfield 193, 32, 0), (32, .if_icmp .lt 10, 35, 42), (35, .aload_n 0, 36, 0), (36, .iload_n 1, 37, 0), (37, .invokevirtual 245, 40, 0), (40, .lconst 0, 41, 0), (41, .lreturn, 42, 0), (42, .aload_n 0, 43, 0), (43, .getfield 57, 46, 0), (46, .iload_n 2, 47, 0), (47, .iconst 2, 48, 0), (48, .idiv, 49, 0), (49, .laload, 50, 0), (50, .lreturn, 51, 0), (51, .iload_n 2, 52, 0), (52, .iconst 2, 53, 0), (53, .idiv, 54, 0), (54, .istore_n 3, 55, 0), (55, .iload_n 3, 56, 0), (56, .bipush 7, 58, 0), (58, .if_icmp .le 8, 61, 66), (61, .aload_n 0, 62, 0), (62, .iload_n 1, 63, 0), (63, .invokevirtual 245, 66, 0), (66, .lconst 0, 67, 0), (67, .lstore 4, 69, 0), (69, .iconst 1, 70, 0), (70, .istore 6, 72, 0), (72, .iconst 0, 73, 0), (73, .istore 7, 75, 0), (75, .iload 7, 77, 0), (77, .iload_n 3, 78, 0), (78, .if_icmp .ge 64, 81, 142), (81, .aload_n 0, 82, 0), (82, .invokevirtual 238, 85, 0), (85, .ifCond .eq 57, 88, 142), (88, .aload_n 0, 89, 0), (89, .invokevirtual 248, 92, 0), (92, .i2l, 93, 0), (93, .lstore 8, 95, 0), (95, .iload 6, 97, 0), (97, .ifCond .eq 23, 100, 120), (100, .lload 8, 102, 0), (102, .lconst 1, 103, 0), (103, .lcmp, 104, 0), (104, .ifCond .lt 16, 107, 120), (107, .lload 8, 109, 0), (109, .ldc2_w 106, 112, 0), (112, .lcmp, 113, 0), (113, .ifCond .gt 7, 116, 120), (116, .iconst 1, 117, 0), (117, .goto 4, 120, 121), (120, .iconst 0, 121, 0), (121, .istore 6, 123, 0), (123, .lload 4, 125, 0), (125, .lload 8, 127, 0), (127, .bipush 8, 129, 0), (129, .iload 7, 131, 0), (131, .imul, 132, 0), (132, .lshl, 133, 0), (133, .lor, 134, 0), (134, .lstore 4, 136, 0), (136, .iinc 7 1, 139, 0), (139, .goto (-64), 142, 75), (142, .aload_n 0, 143, 0), (143, .invokevirtual 238, 146, 0), (146, .ifCond .eq 13, 149, 159), (149, .iload 6, 151, 0), (151, .ifCond .ne 8, 154, 159), (154, .aload_n 0, 155, 0), (155, .iload_n 1, 156, 0), (156, .invokevirtual 245, 159, 0), (159, .aload_n 0, 160, 0), (160, .invokevirtual 238, 163, 0), (163, .ifCond .eq 28, 166, 191), (166, .iload_n 3, 167, 0), (167, .ifCond .le 24, 170, 191), (170, .aload_n 0, 171, 0), (171, .getfield 57, 174, 0), (174, .aload_n 0, 175, 0), (175, .getfield 193, 178, 0), (178, .lload 4, 180, 0), (180, .lastore, 181, 0), (181, .aload_n 0, 182, 0), (182, .dup, 183, 0), (183, .getfield 193, 186, 0), (186, .iconst 1, 187, 0), (187, .iadd, 188, 0), (188, .putfield 193, 191, 0), (191, .lload 4, 193, 0), (193, .lreturn, 194, 0)]
def mX9_takeString : Mt := (yX9_takeString, cX9_takeString, 10, (some .long), 9, tX9_takeString)
def tX9_takeTraits : List (Nat × Rw) := [(0, .aload_n 0, 1, 0), (1, .getfield 242, 4, 0), (4, .istore_n 3, 5, 0), (5, .aload_n 0, 6, 0), (6, .invokevirtual 267, 9, 0), (9, .lstore 4, 11, 0), (11, .aload_n 0, 12, 0), (12, .invokevirtual 238, 15, 0), (15, .ifCond .eq 17, 18, 32), (18, .aload_n 0, 19, 0), (19, .lload 4, 21, 0), (21, .invokevirtual 173, 24, 0), (24, .ifCond .ne 8, 27, 32), (27, .aload_n 0, 28, 0), (28, .iload_n 3, 29, 0), (29, .invokevirtual 245, 32, 0), (32, .iload_n 1, 33, 0), (33, .bipush 16, 35, 0), (35, .idiv, 36, 0), (36, .istore 6, 38, 0), (38, .lconst 0, 39, 0), (39, .lstore 7, 41, 0), (41, .lconst 0, 42, 0), (42, .lstore 9, 44, 0), (44, .lconst 0, 45, 0), (45, .lstore 11, 47, 0), (47, .iconst 0, 48, 0), (48, .istore 13, 50, 0), (50, .iload 13, 52, 0), (52, .iload 6, 54, 0), (54, .if_icmp .ge 129, 57, 183), (57, .aload_n 0, 58, 0), (58, .invokevirtual 238, 61, 0), (61, .ifCond .eq 122, 64, 183), (64, .aload_n 0, 65, 0), (65, .getfield 242, 68, 0), (68, .istore_n 3, 69, 0), (69, .aload_n 0, 70, 0), (70, .invokevirtual 267, 73, 0), (73, .lstore 14, 75, 0), (75, .lload 14, 77, 0), (77, .lconst 0, 78, 0), (78, .lcmp, 79, 0), (79, .ifCond .eq 30, 82, 109), (82, .iload 13, 84, 0), (84, .ifCond .le 11, 87, 95), (87, .lload 14, 89, 0), (89, .lload 7, 91, 0), (91, .lcmp, 92, 0), (92, .ifCond .eq 17, 95, 109), (95, .iload 13, 97, 0), (97, .iconst 1, 98, 0), (98, .if_icmp .le 15, 101, 113), (101, .lload 14, 103, 0), (103, .lload 9, 105, 0), (105, .lcmp, 106, 0), (106, .ifCond .ne 7, 109, 113), (109, .iconst 1, 110, 0), (110, .goto 4, 113, 114), (113, .iconst 0, 114, 0), (114, .istore 16, 116, 0), (116, .aload_n 0, 117, 0), (117, .invokevirtual 238, 120, 0), (120, .ifCond .eq 13, 123, 133), (123, .iload 16, 125, 0), (125, .ifCond .eq 8, 128, 133), (128, .aload_n 0, 129, 0), (129, .iload_n 3, 130, 0), (130, .invokevirtual 245, 133, 0), (133, .iload 13, 135, 0), (135, .ifCond .ne 8, 138, 143), (138, .lload 14, 140, 0), (140, .goto 5, 143, 145), (143, .lload 7, 145, 0), (145, .lstore 7, 147, 0), (147, .iload 13, 149, 0), (149, .iconst 1, 150, 0), (150, .if_icmp .ne 8, 153, 158), (153, .lload 14, 155, 0), (155, .goto 5, 158, 160), (158, .lload 9, 160, 0), (160, .lstore 9, 162, 0), (162, .iload 13, 164, 0), (164, .iconst 2, 165, 0), (165, .if_icmp .ne 8, 168, 173), (168, .lload 14, 170, 0), (170, .goto 5, 173, 175), (173, .lload 11, 175, 0), (175, .lstore 11, 177, 0), (177, .iinc 13 1, 180, 0), (180, .goto (-130), 183, 50), (183, .aload_n 0, 184, 0), (184, .invokevirtual 238, 187, 0), (187, .ifCond .ne 5, 190, 192), (190, .iconst (-1), 191, 0), (191, .ireturn, 192, 0), (192, .iload_n 1, 193, 0), (193, .bipush 8, 195, 0), (195, .idiv, 196, 0), (196, .iconst 2, 197, 0), (197, .irem, 198, 0), (198, .iconst 1, 199, 0), (199, .if_icmp .ne 7, 202, 206), (202, .iconst 1, 203, 0), (203, .goto 4, 206, 207), (206, .iconst 0, 207, 0), (207, .istore 13, 209, 0), (209, .aload_n 0, 210, 0), (210, .lload 4, 212, 0), (212, .iload 13, 214, 0), (214, .iload 6, 216, 0), (216, .lload 7, 218, 0), (218, .lload 9, 220, 0), (220, .lload 11, 222, 0), (222, .invokevirtual 145, 225, 0), (225, .istore 14, 227, 0), (227, .iload 14, 229, 0), (229, .iconst (-1), 230, 0), (230, .if_icmp .ne 19, 233, 249), (233, .aload_n 0, 234, 0), (234, .getfield 142, 237, 0), (237, .bipush 12, 239, 0), (239, .if_icmp .ne 10, 242, 249), (242, .aload_n 0, 243, 0), (243, .iload_n 2, 244, 0), (244, .invokevirtual 245, 247, 0), (247, .iconst (-1), 248, 0), (248, .ireturn, 249, 0), (249, .iload 14, 251, 0), (251, .iconst (-1), 252, 0), (252, .if_icmp .ne 22, 255, 274), (255, .aload_n 0, 256, 0), (256, .lload 4, 258, 0), (258, .iload 13, 260, 0), (260, .iload 6, 262, 0), (262, .lload 7, 264, 0), (264, .lload 9, 266, 0), (266, .lload 11, 268, 0), (268, .invokevirtual 149, 271, 0), (271, .goto 5, 274, 276), (274, .iload 14, 276, 0), (276, .istore 14, 278, 0), (278, .aload_n 0, 279, 0), (279, .getfield 63, 282, 0), (282, .aload_n 0, 283, 0), (283, .getfield 220, 286, 0), (286, .iload 14, 288, 0), (288, .iastore, 289, 0), (289, .aload_n 0, 290, 0), (290, .dup, 291, 0), (291, .getfield 220, 294, 0), (294, .iconst 1, 295, 0), (295, .iadd, 296, 0), (296, .putfield 220, 299, 0), (299, .iload 14, 301, 0), (301, .ireturn, 302, 0)]
def mX9_takeTraits : Mt := (yX9_takeTraits, cX9_takeTraits, 17, (some .int), 9, tX9_takeTraits)
def tX9_takeThing : List (Nat × Rw) := [(0, .aload_n 0, 1, 0), (1, .getfield 242, 4, 0), (4, .istore_n 3, 5, 0), (5, .aload_n 0, 6, 0), (6, .invokevirtual 252, 9, 0), (9, .istore 4, 11, 0), (11, .aload_n 0, 12, 0), (12, .invokevirtual 238, 15, 0), (15, .ifCond .ne 4, 18, 19), (18, .return_, 19, 0), (19, .iload 4, 21, 0), (21, .iconst 2, 22, 0), (22, .irem, 23, 0), (23, .ifCond .ne 85, 26, 108), (26, .iload 4, 28, 0), (28, .iconst 2, 29, 0), (29, .idiv, 30, 0), (30, .aload_n 0, 31, 0), (31, .getfield 211, 34, 0), (34, .if_icmp .ge 40, 37, 74), (37, .aload_n 0, 38, 0), (38, .getfield 27, 41, 0), (41, .aload_n 0, 42, 0), (42, .getfield 60, 45, 0), (45, .iload 4, 47, 0), (47, .iconst 2, 48, 0), (48, .idiv, 49, 0), (49, .aload_n 0, 50, 0), (50, .getfield 211, 53, 0), (53, .if_icmp .ge 10, 56, 63), (56, .iload 4, 58, 0), (58, .iconst 2, 59, 0), (59, .idiv, 60, 0), (60, .goto 4, 63, 64), (63, .iconst 0, 64, 0), (64, .iaload, 65, 0), (65, .iaload, 66, 0), (66, .iload_n 1, 67, 0), (67, .if_icmp .ne 7, 70, 74), (70, .iconst 1, 71, 0), (71, .goto 4, 74, 75), (74, .iconst 0, 75, 0), (75, .istore 5, 77, 0), (77, .iload 5, 79, 0), (79, .ifCond .eq 23, 82, 102), (82, .aload_n 0, 83, 0), (83, .aload_n 0, 84, 0), (84, .aload_n 0, 85, 0), (85, .getfield 60, 88, 0), (88, .iload 4, 90, 0), (90, .iconst 2, 91, 0), (91, .idiv, 92, 0), (92, .iaload, 93, 0), (93, .invokevirtual 138, 96, 0), (96, .putfield 255, 99, 0), (99, .goto 8, 102, 107), (102, .aload_n 0, 103, 0), (103, .iload_n 3, 104, 0), (104, .invokevirtual 245, 107, 0), (107, .return_, 108, 0), (108, .aload_n 0, 109, 0), (109, .getfield 121, 112, 0), (112, .bipush 40, 114, 0), (114, .if_icmp .eq 12, 117, 126), (117, .aload_n 0, 118, 0), (118, .getfield 196, 121, 0), (121, .bipush 12, 123, 0), (123, .if_icmp .ne 9, 126, 132), (126, .aload_n 0, 127, 0), (127, .iload_n 2, 128, 0), (128, .invokevirtual 245, 131, 0), (131, .return_, 132, 0), (132, .iload_n 1, 133, 0), (133, .bipush 8, 135, 0), (135, .if_icmp .ne 17, 138, 152), (138, .iload 4, 140, 0), (140, .iconst 1, 141, 0), (141, .if_icmp .eq 7, 144, 148), (144, .iconst 1, 145, 0), (145, .goto 81, 148, 226), (148, .iconst 0, 149, 0), (149, .goto 77, 152, 226), (152, .iload_n 1, 153, 0), (153, .bipush 10, 155, 0), (155, .if_icmp .ne 57, 158, 212), (158, .iload 4, 160, 0), (160, .bipush 8, 162, 0), (162, .irem, 163, 0), (163, .bipush 7, 165, 0), (165, .if_icmp .eq 39, 168, 204), (168, .iload 4, 170, 0), (170, .iconst 4, 171, 0), (171, .irem, 172, 0), (172, .iconst 3, 173, 0), (173, .if_icmp .ne 12, 176, 185), (176, .iload 4, 178, 0), (178, .bipush 16, 180, 0), (180, .idiv, 181, 0), (181, .iconst 3, 182, 0), (182, .if_icmp .gt 22, 185, 204), (185, .iload 4, 187, 0), (187, .iconst 4, 188, 0), (188, .irem, 189, 0), (189, .iconst 1, 190, 0), (190, .if_icmp .ne 18, 193, 208), (193, .iload 4, 195, 0), (195, .iconst 4, 196, 0), (196, .idiv, 197, 0), (197, .aload_n 0, 198, 0), (198, .getfield 220, 201, 0), (201, .if_icmp .lt 7, 204, 208), (204, .iconst 1, 205, 0), (205, .goto 21, 208, 226), (208, .iconst 0, 209, 0), (209, .goto 17, 212, 226), (212, .iload 4, 214, 0), (214, .iconst 2, 215, 0), (215, .idiv, 216, 0), (216, .bipush 8, 218, 0), (218, .if_icmp .le 7, 221, 225), (221, .iconst 1, 222, 0), (222, .goto 4, 225, 226), (225, .iconst 0, 226, 0), (226, .istore 5, 228, 0), (228, .iload 5, 230, 0), (230, .ifCond .eq 9, 233, 239), (233, .aload_n 0, 234, 0), (234, .iload_n 3, 235, 0), (235, .invokevirtual 245, 238, 0), (238, .return_, 239, 0), (239, .aload_n 0, 240, 0), (240, .iload_n 1, 241, 0), (241, .lconst 0, 242, 0), (242, .iload_n 1, 243, 0), (243, .bipush 10, 245, 0), (245, .if_icmp .eq 9, 248, 254), (248, .iload_n 1, 249, 0), (249, .bipush 8, 251, 0), (251, .if_icmp .ne 7, 254, 258), (254, .iconst 0, 255, 0), (255, .goto 7, 258, 262), (258, .iload 4, 260, 0), (260, .iconst 2, 261, 0), (261, .idiv, 262, 0), (262, .iconst (-1), 263, 0), (263, .invokevirtual 134, 266, 0), (266, .istore 6, 268, 0), (268, .aload_n 0, 269, 0), (269, .getfield 60, 272, 0), (272, .aload_n 0, 273, 0), (273, .getfield 211, 276, 0), (276, .iload 6, 278, 0), (278, .iastore, 279, 0), (279, .aload_n 0, 280, 0), (280, .dup, 281, 0), (281, .getfield 211, 284, 0), (284, .iconst 1, 285, 0), (285, .iadd, 286, 0), (286, .putfield 211, 289, 0), (289, .aload_n 0, 290, 0), (290, .aload_n 0, 291, 0), (291, .iload 6, 293, 0), (293, .invokevirtual 138, 296, 0), (296, .putfield 255, 299, 0), (299, .iload_n 1, 300, 0), (300, .bipush 8, 302, 0), (302, .if_icmp .ne 17, 305, 319), (305, .aload_n 0, 306, 0), (306, .getfield 30, 309, 0), (309, .iload 6, 311, 0), (311, .aload_n 0, 312, 0), (312, .invokevirtual 263, 315, 0), (315, .lastore, 316, 0), (316, .goto 149, 319, 465), (319, .iload_n 1, 320, 0), (320, .bipush 12, 322, 0), (322, .if_icmp .ne 60, 325, 382), (325, .iconst 0, 326, 0), (326, .istore 7, 328, 0), (328, .iload 7, 330, 0), (330, .aload_n 0, 331, 0), (331, .getfield 33, 334, 0), (334, .iload 6, 336, 0), (336, .iaload, 337, 0), (337, .if_icmp .ge 42, 340, 379), (340, .aload_n 0, 341, 0), (341, .invokevirtual 238, 344, 0), (344, .ifCond .eq 35, 347, 379), (347, .aload_n 0, 348, 0), (348, .getfield 30, 351, 0), (351, .iload 6, 353, 0), (353, .aload_n 0, 354, 0), (354, .getfield 30, 357, 0), (357, .iload 6, 359, 0), (359, .laload, 360, 0), (360, .aload_n 0, 361, 0), (361, .invokevirtual 248, 364, 0), (364, .i2l, 365, 0), (365, .bipush 8, 367, 0), (367, .iload 7, 369, 0), (369, .imul, 370, 0), (370, .lshl, 371, 0), (371, .lor, 372, 0), (372, .lastore, 373, 0), (373, .iinc 7 1, 376, 0), (376, .goto (-48), 379, 328), (379, .goto 86, 382, 465), (382, .iload_n 1, 383, 0), (383, .bipush 10, 385, 0), (385, .if_icmp .ne 67, 388, 452), (388, .aload_n 0, 389, 0), (389, .getfield 36, 392, 0), (392, .iload 6, 394, 0), (394, .iload 4, 396, 0), (396, .iconst 4, 397, 0), (397, .irem, 398, 0), (398, .iconst 1, 399, 0), (399, .if_icmp .ne 15, 402, 414), (402, .aload_n 0, 403, 0), (403, .getfield 63, 406, 0), (406, .iload 4, 408, 0), (408, .iconst 4, 409, 0), (409, .idiv, 410, 0), (410, .iaload, 411, 0), (411, .goto 10, 414, 421), (414, .aload_n 0, 415, 0), (415, .iload 4, 417, 0), (417, .iload_n 3, 418, 0), (418, .invokevirtual 276, 421, 0), (421, .iastore, 422, 0), (422, .aload_n 0, 423, 0), (423, .getfield 33, 426, 0), (426, .iload 6, 428, 0), (428, .aload_n 0, 429, 0), (429, .invokevirtual 238, 432, 0), (432, .ifCond .eq 18, 435, 450), (435, .aload_n 0, 436, 0), (436, .getfield 20, 439, 0), (439, .aload_n 0, 440, 0), (440, .getfield 36, 443, 0), (443, .iload 6, 445, 0), (445, .iaload, 446, 0), (446, .iaload, 447, 0), (447, .goto 4, 450, 451), (450, .iconst 0, 451, 0), (451, .iastore, 452, 0), (452, .aload_n 0, 453, 0), (453, .invokevirtual 238, 456, 0), (456, .ifCond .eq 9, 459, 465), (459, .aload_n 0, 460, 0), (460, .iload 6, 462, 0), (462, .invokevirtual 214, 465, 0), (465, .return_, 466, 0)]
def mX9_takeThing : Mt := (yX9_takeThing, cX9_takeThing, 8, none, 9, tX9_takeThing)
def tX9_takeValue : List (Nat × Rw) := [(0, .aload_n 0, 1, 0), (1, .getfield 242, 4, 0), (4, .istore_n 1, 5, 0), (5, .aload_n 0, 6, 0), (6, .invokevirtual 248, 9, 0), (9, .istore_n 2, 10, 0), (10, .aload_n 0, 11, 0), (11, .invokevirtual 238, 14, 0), (14, .ifCond .ne 4, 17, 18), (17, .return_, 18, 0), (18, .iload_n 2, 19, 0), (19, .tableswitch 179 0 12 #[65, 65, 65, 65, 74, 111, 151, 179, 170, 170, 170, 179, 170], 84, 0), (84, .aload_n 0, 85, 0), (85, .iload_n 2, 86, 0), (86, .i2l, 87, 0), (87, .putfield 255, 90, 0), (90, .goto 113, 93, 203), (93, .aload_n 0, 94, 0), (94, .invokevirtual 252, 97, 0), (97, .istore_n 3, 98, 0), (98, .aload_n 0, 99, 0), (99, .ldc2_w 128, 102, 0), (102, .iload_n 3, 103, 0), (103, .ldc_w 259, 106, 0), (106, .if_icmp .lt 11, 109, 117), (109, .iload_n 3, 110, 0), (110, .ldc_w 260, 113, 0), (113, .isub, 114, 0), (114, .goto 4, 117, 118), (117, .iload_n 3, 118, 0), (118, .i2l, 119, 0), (119, .lmul, 120, 0), (120, .ldc2_w 261, 123, 0), (123, .ladd, 124, 0), (124, .putfield 255, 127, 0), (127, .goto 76, 130, 203), (130, .aload_n 0, 131, 0), (131, .getfield 114, 134, 0), (134, .bipush 40, 136, 0), (136, .if_icmp .ne 8, 139, 144), (139, .aload_n 0, 140, 0), (140, .iload_n 1, 141, 0), (141, .invokevirtual 245, 144, 0), (144, .aload_n 0, 145, 0), (145, .invokevirtual 263, 148, 0), (148, .lstore 4, 150, 0), (150, .aload_n 0, 151, 0), (151, .invokevirtual 238, 154, 0), (154, .ifCond .eq 49, 157, 203), (157, .aload_n 0, 158, 0), (158, .aload_n 0, 159, 0), (159, .lload 4, 161, 0), (161, .invokevirtual 124, 164, 0), (164, .putfield 255, 167, 0), (167, .goto 36, 170, 203), (170, .aload_n 0, 171, 0), (171, .ldc2_w 128, 174, 0), (174, .aload_n 0, 175, 0), (175, .invokevirtual 267, 178, 0), (178, .lmul, 179, 0), (179, .ldc2_w 270, 182, 0), (182, .ladd, 183, 0), (183, .putfield 255, 186, 0), (186, .goto 17, 189, 203), (189, .aload_n 0, 190, 0), (190, .iload_n 2, 191, 0), (191, .iload_n 1, 192, 0), (192, .invokevirtual 272, 195, 0), (195, .goto 8, 198, 203), (198, .aload_n 0, 199, 0), (199, .iload_n 1, 200, 0), (200, .invokevirtual 245, 203, 0), (203, .return_, 204, 0)]
def mX9_takeValue : Mt := (yX9_takeValue, cX9_takeValue, 6, none, 9, tX9_takeValue)
def tX9_give : List (Nat × Rw) := [(0, .aload_n 0, 1, 0), (1, .getfield 66, 4, 0), (4, .iload_n 1, 5, 0), (5, .iaload, 6, 0), (6, .istore_n 3, 7, 0), (7, .iload_n 2, 8, 0), (8, .ifCond .eq 28, 11, 36), (11, .aload_n 0, 12, 0), (12, .getfield 39, 15, 0), (15, .bipush 8, 17, 0), (17, .iload_n 3, 18, 0), (18, .imul, 19, 0), (19, .aload_n 0, 20, 0), (20, .getfield 69, 23, 0), (23, .iload_n 1, 24, 0), (24, .iaload, 25, 0), (25, .iadd, 26, 0), (26, .iconst 1, 27, 0), (27, .isub, 28, 0), (28, .aload_n 0, 29, 0), (29, .getfield 255, 32, 0), (32, .lastore, 33, 0), (33, .goto 25, 36, 58), (36, .aload_n 0, 37, 0), (37, .getfield 48, 40, 0), (40, .bipush 6, 42, 0), (42, .iload_n 3, 43, 0), (43, .imul, 44, 0), (44, .aload_n 0, 45, 0), (45, .getfield 72, 48, 0), (48, .iload_n 1, 49, 0), (49, .iaload, 50, 0), (50, .iadd, 51, 0), (51, .iconst 1, 52, 0), (52, .isub, 53, 0), (53, .aload_n 0, 54, 0), (54, .getfield 255, 57, 0), (57, .lastore, 58, 0), (58, .return_, 59, 0)]
def mX9_give : Mt := (yX9_give, cX9_give, 4, none, 9, tX9_give)
def tX9_readOn : List (Nat × Rw) := [(0, .aload_n 0, 1, 0), (1, .getfield 196, 4, 0), (4, .iconst 1, 5, 0), (5, .isub, 6, 0), (6, .istore_n 1, 7, 0), (7, .aload_n 0, 8, 0), (8, .getfield 66, 11, 0), (11, .iload_n 1, 12, 0), (12, .iaload, 13, 0), (13, .istore_n 2, 14, 0), (14, .aload_n 0, 15, 0), (15, .getfield 69, 18, 0), (18, .iload_n 1, 19, 0), (19, .iaload, 20, 0), (20, .aload_n 0, 21, 0), (21, .getfield 33, 24, 0), (24, .iload_n 2, 25, 0), (25, .iaload, 26, 0), (26, .if_icmp .ge 7, 29, 33), (29, .iconst 1, 30, 0), (30, .goto 4, 33, 34), (33, .iconst 0, 34, 0), (34, .istore_n 3, 35, 0), (35, .aload_n 0, 36, 0), (36, .getfield 75, 39, 0), (39, .iload_n 1, 40, 0), (40, .baload, 41, 0), (41, .ifCond .ne 22, 44, 63), (44, .aload_n 0, 45, 0), (45, .getfield 27, 48, 0), (48, .iload_n 2, 49, 0), (49, .iaload, 50, 0), (50, .bipush 9, 52, 0), (52, .if_icmp .eq 7, 55, 59), (55, .iload_n 3, 56, 0), (56, .ifCond .ne 7, 59, 63), (59, .iconst 1, 60, 0), (60, .goto 4, 63, 64), (63, .iconst 0, 64, 0), (64, .istore 4, 66, 0), (66, .iload 4, 68, 0), (68, .ifCond .eq 152, 71, 220), (71, .aload_n 0, 72, 0), (72, .getfield 242, 75, 0), (75, .istore 5, 77, 0), (77, .aload_n 0, 78, 0), (78, .invokevirtual 267, 81, 0), (81, .lstore 6, 83, 0), (83, .aload_n 0, 84, 0), (84, .invokevirtual 238, 87, 0), (87, .ifCond .ne 4, 90, 91), (90, .return_, 91, 0), (91, .lload 6, 93, 0), (93, .lconst 0, 94, 0), (94, .lcmp, 95, 0), (95, .ifCond .ne 11, 98, 106), (98, .aload_n 0, 99, 0), (99, .getfield 75, 102, 0), (102, .iload_n 1, 103, 0), (103, .iconst 1, 104, 0), (104, .bastore, 105, 0), (105, .return_, 106, 0), (106, .aload_n 0, 107, 0), (107, .iload_n 2, 108, 0), (108, .lload 6, 110, 0), (110, .invokevirtual 165, 113, 0), (113, .ifCond .ne 25, 116, 138), (116, .aload_n 0, 117, 0), (117, .iload_n 2, 118, 0), (118, .lload 6, 120, 0), (120, .invokevirtual 169, 123, 0), (123, .iconst (-1), 124, 0), (124, .if_icmp .ne 14, 127, 138), (127, .aload_n 0, 128, 0), (128, .getfield 42, 131, 0), (131, .iload_n 2, 132, 0), (132, .iaload, 133, 0), (133, .bipush 6, 135, 0), (135, .if_icmp .ne 10, 138, 145), (138, .aload_n 0, 139, 0), (139, .iload 5, 141, 0), (141, .invokevirtual 245, 144, 0), (144, .return_, 145, 0), (145, .aload_n 0, 146, 0), (146, .getfield 45, 149, 0), (149, .bipush 6, 151, 0), (151, .iload_n 2, 152, 0), (152, .imul, 153, 0), (153, .aload_n 0, 154, 0), (154, .getfield 42, 157, 0), (157, .iload_n 2, 158, 0), (158, .iaload, 159, 0), (159, .iadd, 160, 0), (160, .lload 6, 162, 0), (162, .lastore, 163, 0), (163, .aload_n 0, 164, 0), (164, .getfield 48, 167, 0), (167, .bipush 6, 169, 0), (169, .iload_n 2, 170, 0), (170, .imul, 171, 0), (171, .aload_n 0, 172, 0), (172, .getfield 42, 175, 0), (175, .iload_n 2, 176, 0), (176, .iaload, 177, 0), (177, .iadd, 178, 0), (178, .lconst 0, 179, 0), (179, .lastore, 180, 0), (180, .aload_n 0, 181, 0), (181, .getfield 42, 184, 0), (184, .iload_n 2, 185, 0), (185, .dup2, 186, 0), (186, .iaload, 187, 0), (187, .iconst 1, 188, 0), (188, .iadd, 189, 0), (189, .iastore, 190, 0), (190, .aload_n 0, 191, 0), (191, .getfield 72, 194, 0), (194, .iload_n 1, 195, 0), (195, .dup2, 196, 0), (196, .iaload, 197, 0), (197, .iconst 1, 198, 0), (198, .iadd, 199, 0), (199, .iastore, 200, 0), (200, .aload_n 0, 201, 0), (201, .invokevirtual 280, 204, 0), (204, .aload_n 0, 205, 0), (205, .invokevirtual 238, 208, 0), (208, .ifCond .eq 9, 211, 217), (211, .aload_n 0, 212, 0), (212, .iload_n 1, 213, 0), (213, .iconst 0, 214, 0), (214, .invokevirtual 283, 217, 0), (217, .goto 47, 220, 264), (220, .iload_n 3, 221, 0), (221, .ifCond .eq 33, 224, 254), (224, .aload_n 0, 225, 0), (225, .getfield 69, 228, 0), (228, .iload_n 1, 229, 0), (229, .dup2, 230, 0), (230, .iaload, 231, 0), (231, .iconst 1, 232, 0), (232, .iadd, 233, 0), (233, .iastore, 234, 0), (234, .aload_n 0, 235, 0), (235, .invokevirtual 280, 238, 0), (238, .aload_n 0, 239, 0), (239, .invokevirtual 238, 242, 0), (242, .ifCond .eq 22, 245, 264), (245, .aload_n 0, 246, 0), (246, .iload_n 1, 247, 0), (247, .iconst 1, 248, 0), (248, .invokevirtual 283, 251, 0), (251, .goto 13, 254, 264), (254, .aload_n 0, 255, 0), (255, .dup, 256, 0), (256, .getfield 196, 259, 0), (259, .iconst 1, 260, 0), (260, .isub, 261, 0), (261, .putfield 196, 264, 0), (264, .return_, 265, 0)]
def mX9_readOn : Mt := (yX9_readOn, cX9_readOn, 8, none, 9, tX9_readOn)
def tX9_decode : List (Nat × Rw) := [(0, .aload_n 0, 1, 0), (1, .getfield 114, 4, 0), (4, .istore_n 1, 5, 0), (5, .aload_n 0, 6, 0), (6, .getfield 121, 9, 0), (9, .istore_n 2, 10, 0), (10, .aload_n 0, 11, 0), (11, .getfield 142, 14, 0), (14, .istore_n 3, 15, 0), (15, .aload_n 0, 16, 0), (16, .invokevirtual 226, 19, 0), (19, .aload_n 0, 20, 0), (20, .iconst 0, 21, 0), (21, .putfield 242, 24, 0), (24, .aload_n 0, 25, 0), (25, .iconst (-1), 26, 0), (26, .putfield 235, 29, 0), (29, .aload_n 0, 30, 0), (30, .invokevirtual 280, 33, 0), (33, .aload_n 0, 34, 0), (34, .getfield 255, 37, 0), (37, .lstore 4, 39, 0), (39, .aload_n 0, 40, 0), (40, .getfield 196, 43, 0), (43, .ifCond .le 17, 46, 60), (46, .aload_n 0, 47, 0), (47, .invokevirtual 238, 50, 0), (50, .ifCond .eq 10, 53, 60), (53, .aload_n 0, 54, 0), (54, .invokevirtual 287, 57, 0), (57, .goto (-18), 60, 39), (60, .aload_n 0, 61, 0), (61, .aload_n 0, 62, 0), (62, .getfield 235, 65, 0), (65, .putfield 90, 68, 0), (68, .aload_n 0, 69, 0), (69, .aload_n 0, 70, 0), (70, .invokevirtual 238, 73, 0), (73, .ifCond .eq 7, 76, 80), (76, .iconst 0, 77, 0), (77, .goto 4, 80, 81), (80, .iconst 1, 81, 0), (81, .putfield 97, 84, 0), (84, .aload_n 0, 85, 0), (85, .getfield 97, 88, 0), (88, .ifCond .le 20, 91, 108), (91, .aload_n 0, 92, 0), (92, .iload_n 1, 93, 0), (93, .putfield 114, 96, 0), (96, .aload_n 0, 97, 0), (97, .iload_n 2, 98, 0), (98, .putfield 121, 101, 0), (101, .aload_n 0, 102, 0), (102, .iload_n 3, 103, 0), (103, .putfield 142, 106, 0), (106, .lconst 0, 107, 0), (107, .lreturn, 108, 0), (108, .lload 4, 110, 0), (110, .lreturn, 111, 0)]
def mX9_decode : Mt := (yX9_decode, cX9_decode, 6, (some .long), 9, tX9_decode)
def tX9_fault : List (Nat × Rw) := [(0, .aload_n 0, 1, 0), (1, .iconst 0, 2, 0), (2, .putfield 97, 5, 0), (5, .aload_n 0, 6, 0), (6, .getfield 90, 9, 0), (9, .ireturn, 10, 0)]
def mX9_fault : Mt := (yX9_fault, cX9_fault, 1, (some .int), 9, tX9_fault)
def tX9_size : List (Nat × Rw) := [(0, .aload_n 0, 1, 0), (1, .iconst 0, 2, 0), (2, .putfield 97, 5, 0), (5, .aload_n 0, 6, 0), (6, .getfield 232, 9, 0), (9, .ireturn, 10, 0)]
def mX9_size : Mt := (yX9_size, cX9_size, 1, (some .int), 9, tX9_size)
def tX9_byteAt : List (Nat × Rw) := [(0, .aload_n 0, 1, 0), (1, .iconst 0, 2, 0), (2, .putfield 97, 5, 0), (5, .iload_n 1, 6, 0), (6, .ifCond .lt 20, 9, 26), (9, .iload_n 1, 10, 0), (10, .aload_n 0, 11, 0), (11, .getfield 232, 14, 0), (14, .if_icmp .ge 12, 17, 26), (17, .aload_n 0, 18, 0), (18, .getfield 54, 21, 0), (21, .iload_n 1, 22, 0), (22, .iaload, 23, 0), (23, .goto 4, 26, 27), (26, .iconst (-1), 27, 0), (27, .ireturn, 28, 0)]
def mX9_byteAt : Mt := (yX9_byteAt, cX9_byteAt, 2, (some .int), 9, tX9_byteAt)
def tX9_alter : List (Nat × Rw) := [(0, .aload_n 0, 1, 0), (1, .iconst 0, 2, 0), (2, .putfield 97, 5, 0), (5, .iload_n 1, 6, 0), (6, .ifCond .lt 29, 9, 35), (9, .iload_n 1, 10, 0), (10, .aload_n 0, 11, 0), (11, .getfield 232, 14, 0), (14, .if_icmp .gt 21, 17, 35), (17, .iload_n 1, 18, 0), (18, .sipush 600, 21, 0), (21, .if_icmp .eq 14, 24, 35), (24, .iload_n 2, 25, 0), (25, .ifCond .lt 10, 28, 35), (28, .iload_n 2, 29, 0), (29, .sipush 255, 32, 0), (32, .if_icmp .le 5, 35, 37), (35, .iconst 0, 36, 0), (36, .ireturn, 37, 0), (37, .aload_n 0, 38, 0), (38, .getfield 54, 41, 0), (41, .iload_n 1, 42, 0), (42, .iload_n 2, 43, 0), (43, .iastore, 44, 0), (44, .aload_n 0, 45, 0), (45, .iload_n 1, 46, 0), (46, .aload_n 0, 47, 0), (47, .getfield 232, 50, 0), (50, .if_icmp .ne 12, 53, 62), (53, .aload_n 0, 54, 0), (54, .getfield 232, 57, 0), (57, .iconst 1, 58, 0), (58, .iadd, 59, 0), (59, .goto 7, 62, 66), (62, .aload_n 0, 63, 0), (63, .getfield 232, 66, 0), (66, .putfield 232, 69, 0), (69, .iconst 1, 70, 0), (70, .ireturn, 71, 0)]
def mX9_alter : Mt := (yX9_alter, cX9_alter, 3, (some .boolean), 9, tX9_alter)
def tX9_cut : List (Nat × Rw) := [(0, .aload_n 0, 1, 0), (1, .iconst 0, 2, 0), (2, .putfield 97, 5, 0), (5, .iload_n 1, 6, 0), (6, .ifCond .lt 11, 9, 17), (9, .iload_n 1, 10, 0), (10, .aload_n 0, 11, 0), (11, .getfield 232, 14, 0), (14, .if_icmp .le 5, 17, 19), (17, .iconst 0, 18, 0), (18, .ireturn, 19, 0), (19, .aload_n 0, 20, 0), (20, .iload_n 1, 21, 0), (21, .putfield 232, 24, 0), (24, .iconst 1, 25, 0), (25, .ireturn, 26, 0)]
def mX9_cut : Mt := (yX9_cut, cX9_cut, 2, (some .boolean), 9, tX9_cut)
def tX9_things : List (Nat × Rw) := [(0, .aload_n 0, 1, 0), (1, .iconst 0, 2, 0), (2, .putfield 97, 5, 0), (5, .aload_n 0, 6, 0), (6, .getfield 121, 9, 0), (9, .ireturn, 10, 0)]
def mX9_things : Mt := (yX9_things, cX9_things, 1, (some .int), 9, tX9_things)
def tX9_kind : List (Nat × Rw) := [(0, .aload_n 0, 1, 0), (1, .iconst 0, 2, 0), (2, .putfield 97, 5, 0), (5, .aload_n 0, 6, 0), (6, .iload_n 1, 7, 0), (7, .invokevirtual 152, 10, 0), (10, .ifCond .eq 12, 13, 22), (13, .aload_n 0, 14, 0), (14, .getfield 27, 17, 0), (17, .iload_n 1, 18, 0), (18, .iaload, 19, 0), (19, .goto 4, 22, 23), (22, .iconst (-1), 23, 0), (23, .ireturn, 24, 0)]
def mX9_kind : Mt := (yX9_kind, cX9_kind, 2, (some .int), 9, tX9_kind)
def tX9_count : List (Nat × Rw) := [(0, .aload_n 0, 1, 0), (1, .iconst 0, 2, 0), (2, .putfield 97, 5, 0), (5, .aload_n 0, 6, 0), (6, .iload_n 1, 7, 0), (7, .invokevirtual 152, 10, 0), (10, .ifCond .eq 12, 13, 22), (13, .aload_n 0, 14, 0), (14, .getfield 33, 17, 0), (17, .iload_n 1, 18, 0), (18, .iaload, 19, 0), (19, .goto 4, 22, 23), (22, .iconst (-1), 23, 0), (23, .ireturn, 24, 0)]
def mX9_count : Mt := (yX9_count, cX9_count, 2, (some .int), 9, tX9_count)
def tX9_item : List (Nat × Rw) := [(0, .aload_n 0, 1, 0), (1, .iconst 0, 2, 0), (2, .putfield 97, 5, 0), (5, .aload_n 0, 6, 0), (6, .iload_n 1, 7, 0), (7, .invokevirtual 152, 10, 0), (10, .ifCond .eq 7, 13, 17), (13, .iload_n 2, 14, 0), (14, .ifCond .ge 7, 17, 21), (17, .ldc2_w 290, 20, 0), (20, .lreturn, 21, 0), (21, .aload_n 0, 22, 0), (22, .getfield 27, 25, 0), (25, .iload_n 1, 26, 0), (26, .iaload, 27, 0), (27, .bipush 8, 29, 0), (29, .if_icmp .ne 20, 32, 49), (32, .iload_n 2, 33, 0), (33, .ifCond .ne 12, 36, 45), (36, .aload_n 0, 37, 0), (37, .getfield 30, 40, 0), (40, .iload_n 1, 41, 0), (41, .laload, 42, 0), (42, .goto 6, 45, 48), (45, .ldc2_w 290, 48, 0), (48, .lreturn, 49, 0), (49, .iload_n 2, 50, 0), (50, .aload_n 0, 51, 0), (51, .getfield 33, 54, 0), (54, .iload_n 1, 55, 0), (55, .iaload, 56, 0), (56, .if_icmp .lt 7, 59, 63), (59, .ldc2_w 290, 62, 0), (62, .lreturn, 63, 0), (63, .aload_n 0, 64, 0), (64, .getfield 27, 67, 0), (67, .iload_n 1, 68, 0), (68, .iaload, 69, 0), (69, .bipush 12, 71, 0), (71, .if_icmp .ne 29, 74, 100), (74, .ldc2_w 128, 77, 0), (77, .aload_n 0, 78, 0), (78, .getfield 30, 81, 0), (81, .iload_n 1, 82, 0), (82, .laload, 83, 0), (83, .bipush 8, 85, 0), (85, .iload_n 2, 86, 0), (86, .imul, 87, 0), (87, .lushr, 88, 0), (88, .ldc2_w 104, 91, 0), (91, .land, 92, 0), (92, .lmul, 93, 0), (93, .ldc2_w 261, 96, 0), (96, .ladd, 97, 0), (97, .goto 14, 100, 111), (100, .aload_n 0, 101, 0), (101, .getfield 39, 104, 0), (104, .bipush 8, 106, 0), (106, .iload_n 1, 107, 0), (107, .imul, 108, 0), (108, .iload_n 2, 109, 0), (109, .iadd, 110, 0), (110, .laload, 111, 0), (111, .lreturn, 112, 0)]
def mX9_item : Mt := (yX9_item, cX9_item, 3, (some .long), 9, tX9_item)
def tX9_pairs : List (Nat × Rw) := [(0, .aload_n 0, 1, 0), (1, .iconst 0, 2, 0), (2, .putfield 97, 5, 0), (5, .aload_n 0, 6, 0), (6, .iload_n 1, 7, 0), (7, .invokevirtual 152, 10, 0), (10, .ifCond .eq 12, 13, 22), (13, .aload_n 0, 14, 0), (14, .getfield 42, 17, 0), (17, .iload_n 1, 18, 0), (18, .iaload, 19, 0), (19, .goto 4, 22, 23), (22, .iconst 0, 23, 0), (23, .ireturn, 24, 0)]
def mX9_pairs : Mt := (yX9_pairs, cX9_pairs, 2, (some .int), 9, tX9_pairs)
def tX9_pair : List (Nat × Rw) := [(0, .aload_n 0, 1, 0), (1, .iconst 0, 2, 0), (2, .putfield 97, 5, 0), (5, .aload_n 0, 6, 0), (6, .iload_n 1, 7, 0), (7, .invokevirtual 152, 10, 0), (10, .ifCond .eq 17, 13, 27), (13, .iload_n 2, 14, 0), (14, .ifCond .lt 13, 17, 27), (17, .iload_n 2, 18, 0), (18, .aload_n 0, 19, 0), (19, .getfield 42, 22, 0), (22, .iload_n 1, 23, 0), (23, .iaload, 24, 0), (24, .if_icmp .lt 7, 27, 31), (27, .ldc2_w 290, 30, 0), (30, .lreturn, 31, 0), (31, .iload_n 3, 32, 0), (32, .ifCond .eq 17, 35, 49), (35, .aload_n 0, 36, 0), (36, .getfield 45, 39, 0), (39, .bipush 6, 41, 0), (41, .iload_n 1, 42, 0), (42, .imul, 43, 0), (43, .iload_n 2, 44, 0), (44, .iadd, 45, 0), (45, .laload, 46, 0), (46, .goto 14, 49, 60), (49, .aload_n 0, 50, 0), (50, .getfield 48, 53, 0), (53, .bipush 6, 55, 0), (55, .iload_n 1, 56, 0), (56, .imul, 57, 0), (57, .iload_n 2, 58, 0), (58, .iadd, 59, 0), (59, .laload, 60, 0), (60, .lreturn, 61, 0)]
def mX9_pair : Mt := (yX9_pair, cX9_pair, 4, (some .long), 9, tX9_pair)
def tX9_traitsOf : List (Nat × Rw) := [(0, .aload_n 0, 1, 0), (1, .iconst 0, 2, 0), (2, .putfield 97, 5, 0), (5, .aload_n 0, 6, 0), (6, .iload_n 1, 7, 0), (7, .invokevirtual 152, 10, 0), (10, .ifCond .eq 23, 13, 33), (13, .aload_n 0, 14, 0), (14, .getfield 27, 17, 0), (17, .iload_n 1, 18, 0), (18, .iaload, 19, 0), (19, .bipush 10, 21, 0), (21, .if_icmp .ne 12, 24, 33), (24, .aload_n 0, 25, 0), (25, .getfield 36, 28, 0), (28, .iload_n 1, 29, 0), (29, .iaload, 30, 0), (30, .goto 4, 33, 34), (33, .iconst (-1), 34, 0), (34, .ireturn, 35, 0)]
def mX9_traitsOf : Mt := (yX9_traitsOf, cX9_traitsOf, 2, (some .int), 9, tX9_traitsOf)
def tX9_bits : List (Nat × Rw) := [(0, .aload_n 0, 1, 0), (1, .iconst 0, 2, 0), (2, .putfield 97, 5, 0), (5, .iload_n 1, 6, 0), (6, .ifCond .lt 20, 9, 26), (9, .iload_n 1, 10, 0), (10, .aload_n 0, 11, 0), (11, .getfield 114, 14, 0), (14, .if_icmp .ge 12, 17, 26), (17, .aload_n 0, 18, 0), (18, .getfield 7, 21, 0), (21, .iload_n 1, 22, 0), (22, .laload, 23, 0), (23, .goto 4, 26, 27), (26, .lconst 0, 27, 0), (27, .lreturn, 28, 0)]
def mX9_bits : Mt := (yX9_bits, cX9_bits, 2, (some .long), 9, tX9_bits)
def tX9_areSame : List (Nat × Rw) := [(0, .lload_n 1, 1, 0), (1, .ldc2_w 108, 4, 0), (4, .land, 5, 0), (5, .l2i, 6, 0), (6, .istore 5, 8, 0), (8, .iload 5, 10, 0), (10, .lload_n 3, 11, 0), (11, .ldc2_w 108, 14, 0), (14, .land, 15, 0), (15, .l2i, 16, 0), (16, .if_icmp .eq 5, 19, 21), (19, .iconst 0, 20, 0), (20, .ireturn, 21, 0), (21, .iload 5, 23, 0), (23, .iconst 5, 24, 0), (24, .if_icmp .ne 31, 27, 55), (27, .aload_n 0, 28, 0), (28, .getfield 7, 31, 0), (31, .lload_n 1, 32, 0), (32, .iconst 4, 33, 0), (33, .lshr, 34, 0), (34, .l2i, 35, 0), (35, .laload, 36, 0), (36, .aload_n 0, 37, 0), (37, .getfield 7, 40, 0), (40, .lload_n 3, 41, 0), (41, .iconst 4, 42, 0), (42, .lshr, 43, 0), (43, .l2i, 44, 0), (44, .laload, 45, 0), (45, .lcmp, 46, 0), (46, .ifCond .ne 7, 49, 53), (49, .iconst 1, 50, 0), (50, .goto 4, 53, 54), (53, .iconst 0, 54, 0), (54, .ireturn, 55, 0), (55, .iload 5, 57, 0), (57, .bipush 7, 59, 0), (59, .if_icmp .eq 15, 62, 74), (62, .lload_n 1, 63, 0), (63, .lload_n 3, 64, 0), (64, .lcmp, 65, 0), (65, .ifCond .ne 7, 68, 72), (68, .iconst 1, 69, 0), (69, .goto 4, 72, 73), (72, .iconst 0, 73, 0), (73, .ireturn, 74, 0), (74, .lload_n 1, 75, 0), (75, .iconst 4, 76, 0), (76, .lshr, 77, 0), (77, .l2i, 78, 0), (78, .istore 6, 80, 0), (80, .lload_n 3, 81, 0), (81, .iconst 4, 82, 0), (82, .lshr, 83, 0), (83, .l2i, 84, 0), (84, .istore 7, 86, 0), (86, .aload_n 0, 87, 0), (87, .getfield 81, 90, 0), (90, .iload 6, 92, 0), (92, .iaload, 93, 0), (93, .iconst (-1), 94, 0), (94, .if_icmp .ne 55, 97, 149), (97, .aload_n 0, 98, 0), (98, .getfield 84, 101, 0), (101, .iload 7, 103, 0), (103, .iaload, 104, 0), (104, .iconst (-1), 105, 0), (105, .if_icmp .ne 44, 108, 149), (108, .aload_n 0, 109, 0), (109, .getfield 81, 112, 0), (112, .iload 6, 114, 0), (114, .iload 7, 116, 0), (116, .iastore, 117, 0), (117, .aload_n 0, 118, 0), (118, .getfield 84, 121, 0), (121, .iload 7, 123, 0), (123, .iload 6, 125, 0), (125, .iastore, 126, 0), (126, .aload_n 0, 127, 0), (127, .getfield 87, 130, 0), (130, .aload_n 0, 131, 0), (131, .getfield 292, 134, 0), (134, .iload 6, 136, 0), (136, .iastore, 137, 0), (137, .aload_n 0, 138, 0), (138, .dup, 139, 0), (139, .getfield 292, 142, 0), (142, .iconst 1, 143, 0), (143, .iadd, 144, 0), (144, .putfield 292, 147, 0), (147, .iconst 1, 148, 0), (148, .ireturn, 149, 0), (149, .aload_n 0, 150, 0), (150, .getfield 81, 153, 0), (153, .iload 6, 155, 0), (155, .iaload, 156, 0), (156, .iload 7, 158, 0), (158, .if_icmp .ne 19, 161, 177), (161, .aload_n 0, 162, 0), (162, .getfield 84, 165, 0), (165, .iload 7, 167, 0), (167, .iaload, 168, 0), (168, .iload 6, 170, 0), (170, .if_icmp .ne 7, 173, 177), (173, .iconst 1, 174, 0), (174, .goto 4, 177, 178), (177, .iconst 0, 178, 0), (178, .ireturn, 179, 0)]
def mX9_areSame : Mt := (yX9_areSame, cX9_areSame, 8, (some .boolean), 9, tX9_areSame)
def tX9_areAlike : List (Nat × Rw) := [(0, .aload_n 0, 1, 0), (1, .getfield 27, 4, 0), (4, .iload_n 1, 5, 0), (5, .iaload, 6, 0), (6, .aload_n 0, 7, 0), (7, .getfield 27, 10, 0), (10, .iload_n 2, 11, 0), (11, .iaload, 12, 0), (12, .if_icmp .ne 52, 15, 64), (15, .aload_n 0, 16, 0), (16, .getfield 33, 19, 0), (19, .iload_n 1, 20, 0), (20, .iaload, 21, 0), (21, .aload_n 0, 22, 0), (22, .getfield 33, 25, 0), (25, .iload_n 2, 26, 0), (26, .iaload, 27, 0), (27, .if_icmp .ne 37, 30, 64), (30, .aload_n 0, 31, 0), (31, .getfield 42, 34, 0), (34, .iload_n 1, 35, 0), (35, .iaload, 36, 0), (36, .aload_n 0, 37, 0), (37, .getfield 42, 40, 0), (40, .iload_n 2, 41, 0), (41, .iaload, 42, 0), (42, .if_icmp .ne 22, 45, 64), (45, .aload_n 0, 46, 0), (46, .getfield 36, 49, 0), (49, .iload_n 1, 50, 0), (50, .iaload, 51, 0), (51, .aload_n 0, 52, 0), (52, .getfield 36, 55, 0), (55, .iload_n 2, 56, 0), (56, .iaload, 57, 0), (57, .if_icmp .ne 7, 60, 64), (60, .iconst 1, 61, 0), (61, .goto 4, 64, 65), (64, .iconst 0, 65, 0), (65, .istore_n 3, 66, 0), (66, .iload_n 3, 67, 0), (67, .ifCond .ne 5, 70, 72), (70, .iconst 0, 71, 0), (71, .ireturn, 72, 0), (72, .aload_n 0, 73, 0), (73, .getfield 27, 76, 0), (76, .iload_n 1, 77, 0), (77, .iaload, 78, 0), (78, .bipush 8, 80, 0), (80, .if_icmp .ne 25, 83, 105), (83, .aload_n 0, 84, 0), (84, .getfield 30, 87, 0), (87, .iload_n 1, 88, 0), (88, .laload, 89, 0), (89, .aload_n 0, 90, 0), (90, .getfield 30, 93, 0), (93, .iload_n 2, 94, 0), (94, .laload, 95, 0), (95, .lcmp, 96, 0), (96, .ifCond .ne 7, 99, 103), (99, .iconst 1, 100, 0), (100, .goto 4, 103, 104), (103, .iconst 0, 104, 0), (104, .ireturn, 105, 0), (105, .iconst 0, 106, 0), (106, .istore 4, 108, 0), (108, .iload 4, 110, 0), (110, .aload_n 0, 111, 0), (111, .getfield 33, 114, 0), (114, .iload_n 1, 115, 0), (115, .iaload, 116, 0), (116, .if_icmp .ge 97, 119, 213), (119, .iload_n 3, 120, 0), (120, .ifCond .eq 93, 123, 213), (123, .aload_n 0, 124, 0), (124, .getfield 27, 127, 0), (127, .iload_n 1, 128, 0), (128, .iaload, 129, 0), (129, .bipush 12, 131, 0), (131, .if_icmp .ne 47, 134, 178), (134, .aload_n 0, 135, 0), (135, .getfield 30, 138, 0), (138, .iload_n 1, 139, 0), (139, .laload, 140, 0), (140, .bipush 8, 142, 0), (142, .iload 4, 144, 0), (144, .imul, 145, 0), (145, .lushr, 146, 0), (146, .ldc2_w 104, 149, 0), (149, .land, 150, 0), (150, .aload_n 0, 151, 0), (151, .getfield 30, 154, 0), (154, .iload_n 2, 155, 0), (155, .laload, 156, 0), (156, .bipush 8, 158, 0), (158, .iload 4, 160, 0), (160, .imul, 161, 0), (161, .lushr, 162, 0), (162, .ldc2_w 104, 165, 0), (165, .land, 166, 0), (166, .lcmp, 167, 0), (167, .ifCond .ne 7, 170, 174), (170, .iconst 1, 171, 0), (171, .goto 35, 174, 206), (174, .iconst 0, 175, 0), (175, .goto 31, 178, 206), (178, .aload_n 0, 179, 0), (179, .aload_n 0, 180, 0), (180, .getfield 39, 183, 0), (183, .bipush 8, 185, 0), (185, .iload_n 1, 186, 0), (186, .imul, 187, 0), (187, .iload 4, 189, 0), (189, .iadd, 190, 0), (190, .laload, 191, 0), (191, .aload_n 0, 192, 0), (192, .getfield 39, 195, 0), (195, .bipush 8, 197, 0), (197, .iload_n 2, 198, 0), (198, .imul, 199, 0), (199, .iload 4, 201, 0), (201, .iadd, 202, 0), (202, .laload, 203, 0), (203, .invokevirtual 295, 206, 0), (206, .istore_n 3, 207, 0), (207, .iinc 4 1, 210, 0), (210, .goto (-102), 213, 108), (213, .iconst 0, 214, 0), (214, .istore 4, 216, 0), (216, .iload 4, 218, 0), (218, .aload_n 0, 219, 0), (219, .getfield 42, 222, 0), (222, .iload_n 1, 223, 0), (223, .iaload, 224, 0), (224, .if_icmp .ge 78, 227, 302), (227, .iload_n 3, 228, 0), (228, .ifCond .eq 74, 231, 302), (231, .aload_n 0, 232, 0), (232, .getfield 45, 235, 0), (235, .bipush 6, 237, 0), (237, .iload_n 1, 238, 0), (238, .imul, 239, 0), (239, .iload 4, 241, 0), (241, .iadd, 242, 0), (242, .laload, 243, 0), (243, .aload_n 0, 244, 0), (244, .getfield 45, 247, 0), (247, .bipush 6, 249, 0), (249, .iload_n 2, 250, 0), (250, .imul, 251, 0), (251, .iload 4, 253, 0), (253, .iadd, 254, 0), (254, .laload, 255, 0), (255, .lcmp, 256, 0), (256, .ifCond .ne 38, 259, 294), (259, .aload_n 0, 260, 0), (260, .aload_n 0, 261, 0), (261, .getfield 48, 264, 0), (264, .bipush 6, 266, 0), (266, .iload_n 1, 267, 0), (267, .imul, 268, 0), (268, .iload 4, 270, 0), (270, .iadd, 271, 0), (271, .laload, 272, 0), (272, .aload_n 0, 273, 0), (273, .getfield 48, 276, 0), (276, .bipush 6, 278, 0), (278, .iload_n 2, 279, 0), (279, .imul, 280, 0), (280, .iload 4, 282, 0), (282, .iadd, 283, 0), (283, .laload, 284, 0), (284, .invokevirtual 295, 287, 0), (287, .ifCond .eq 7, 290, 294), (290, .iconst 1, 291, 0), (291, .goto 4, 294, 295), (294, .iconst 0, 295, 0), (295, .istore_n 3, 296, 0), (296, .iinc 4 1, 299, 0), (299, .goto (-83), 302, 216), (302, .iload_n 3, 303, 0), (303, .ireturn, 304, 0)]
def mX9_areAlike : Mt := (yX9_areAlike, cX9_areAlike, 5, (some .boolean), 9, tX9_areAlike)
def tX9_same : List (Nat × Rw) := [(0, .aload_n 0, 1, 0), (1, .iconst 0, 2, 0), (2, .putfield 97, 5, 0), (5, .aload_n 0, 6, 0), (6, .lload_n 1, 7, 0), (7, .invokevirtual 156, 10, 0), (10, .ifCond .eq 11, 13, 21), (13, .aload_n 0, 14, 0), (14, .lload_n 3, 15, 0), (15, .invokevirtual 156, 18, 0), (18, .ifCond .ne 5, 21, 23), (21, .iconst 0, 22, 0), (22, .ireturn, 23, 0), (23, .iconst 0, 24, 0), (24, .istore 5, 26, 0), (26, .iload 5, 28, 0), (28, .bipush 40, 30, 0), (30, .if_icmp .ge 25, 33, 55), (33, .aload_n 0, 34, 0), (34, .getfield 81, 37, 0), (37, .iload 5, 39, 0), (39, .iconst (-1), 40, 0), (40, .iastore, 41, 0), (41, .aload_n 0, 42, 0), (42, .getfield 84, 45, 0), (45, .iload 5, 47, 0), (47, .iconst (-1), 48, 0), (48, .iastore, 49, 0), (49, .iinc 5 1, 52, 0), (52, .goto (-26), 55, 26), (55, .aload_n 0, 56, 0), (56, .iconst 0, 57, 0), (57, .putfield 292, 60, 0), (60, .aload_n 0, 61, 0), (61, .lload_n 1, 62, 0), (62, .lload_n 3, 63, 0), (63, .invokevirtual 295, 66, 0), (66, .istore 5, 68, 0), (68, .iconst 0, 69, 0), (69, .istore 6, 71, 0), (71, .iload 6, 73, 0), (73, .aload_n 0, 74, 0), (74, .getfield 292, 77, 0), (77, .if_icmp .ge 39, 80, 116), (80, .iload 5, 82, 0), (82, .ifCond .eq 34, 85, 116), (85, .aload_n 0, 86, 0), (86, .aload_n 0, 87, 0), (87, .getfield 87, 90, 0), (90, .iload 6, 92, 0), (92, .iaload, 93, 0), (93, .aload_n 0, 94, 0), (94, .getfield 81, 97, 0), (97, .aload_n 0, 98, 0), (98, .getfield 87, 101, 0), (101, .iload 6, 103, 0), (103, .iaload, 104, 0), (104, .iaload, 105, 0), (105, .invokevirtual 299, 108, 0), (108, .istore 5, 110, 0), (110, .iinc 6 1, 113, 0), (113, .goto (-42), 116, 71), (116, .iload 5, 118, 0), (118, .ireturn, 119, 0)]
def mX9_same : Mt := (yX9_same, cX9_same, 7, (some .boolean), 9, tX9_same)
def tX9_clear : List (Nat × Rw) := [(0, .aload_n 0, 1, 0), (1, .iconst 0, 2, 0), (2, .putfield 97, 5, 0), (5, .aload_n 0, 6, 0), (6, .iconst 0, 7, 0), (7, .putfield 114, 10, 0), (10, .aload_n 0, 11, 0), (11, .iconst 0, 12, 0), (12, .putfield 142, 15, 0), (15, .aload_n 0, 16, 0), (16, .iconst 0, 17, 0), (17, .putfield 121, 20, 0), (20, .return_, 21, 0)]
def mX9_clear : Mt := (yX9_clear, cX9_clear, 1, none, 9, tX9_clear)
def tJ7_fill_53178 : List (Nat × Rw) := [(0, .iconst 0, 1, 0), (1, .istore_n 2, 2, 0), (2, .aload_n 0, 3, 0), (3, .arraylength, 4, 0), (4, .istore_n 3, 5, 0), (5, .iload_n 2, 6, 0), (6, .iload_n 3, 7, 0), (7, .if_icmp .ge 13, 10, 20), (10, .aload_n 0, 11, 0), (11, .iload_n 2, 12, 0), (12, .iload_n 1, 13, 0), (13, .iastore, 14, 0), (14, .iinc 2 1, 17, 0), (17, .goto (-12), 20, 5), (20, .return_, 21, 0)]
def mJ7_fill_53178 : Mt := (yJ7_fill_53178, cJ7_fill_53178, 4, none, 12, tJ7_fill_53178)
def tJ9_max_7cf53 : List (Nat × Rw) := [(0, .iload_n 0, 1, 0), (1, .iload_n 1, 2, 0), (2, .if_icmp .lt 7, 5, 9), (5, .iload_n 0, 6, 0), (6, .goto 4, 9, 10), (9, .iload_n 1, 10, 0), (10, .ireturn, 11, 0)]
def mJ9_max_7cf53 : Mt := (yJ9_max_7cf53, cJ9_max_7cf53, 2, (some .int), 11, tJ9_max_7cf53)
set_option maxRecDepth 100000 in
theorem okX0_init : okT mX0_init := by unfold okT; decide +kernel
set_option maxRecDepth 100000 in
theorem okX0_empty : okT mX0_empty := by unfold okT; decide +kernel
set_option maxRecDepth 100000 in
theorem okX0_isFull : okT mX0_isFull := by unfold okT; decide +kernel
set_option maxRecDepth 100000 in
theorem okX0_add : okT mX0_add := by unfold okT; decide +kernel
set_option maxRecDepth 100000 in
theorem okX0_replace : okT mX0_replace := by unfold okT; decide +kernel
set_option maxRecDepth 100000 in
theorem okX0_at : okT mX0_at := by unfold okT; decide +kernel
set_option maxRecDepth 100000 in
theorem okX0_placeOf : okT mX0_placeOf := by unfold okT; decide +kernel
set_option maxRecDepth 100000 in
theorem okX0_has : okT mX0_has := by unfold okT; decide +kernel
set_option maxRecDepth 100000 in
theorem okX0_isLike : okT mX0_isLike := by unfold okT; decide +kernel
set_option maxRecDepth 100000 in
theorem okX6_become : okT mX6_become := by unfold okT; decide +kernel
set_option maxRecDepth 100000 in
theorem okX6_isAlike : okT mX6_isAlike := by unfold okT; decide +kernel
set_option maxRecDepth 100000 in
theorem okX6_init : okT mX6_init := by unfold okT; decide +kernel
set_option maxRecDepth 100000 in
theorem okX5_become : okT mX5_become := by unfold okT; decide +kernel
set_option maxRecDepth 100000 in
theorem okX5_init : okT mX5_init := by unfold okT; decide +kernel
set_option maxRecDepth 100000 in
theorem okX3_init : okT mX3_init := by unfold okT; decide +kernel
set_option maxRecDepth 100000 in
theorem okX3_become : okT mX3_become := by unfold okT; decide +kernel
set_option maxRecDepth 100000 in
theorem okX4_keepOnly : okT mX4_keepOnly := by unfold okT; decide +kernel
set_option maxRecDepth 100000 in
theorem okX4_placeOfDraft : okT mX4_placeOfDraft := by unfold okT; decide +kernel
set_option maxRecDepth 100000 in
theorem okX4_giveTraits : okT mX4_giveTraits := by unfold okT; decide +kernel
set_option maxRecDepth 100000 in
theorem okX4_canHavePairs : okT mX4_canHavePairs := by unfold okT; decide +kernel
set_option maxRecDepth 100000 in
theorem okX4_isMember : okT mX4_isMember := by unfold okT; decide +kernel
set_option maxRecDepth 100000 in
theorem okX4_init : okT mX4_init := by unfold okT; decide +kernel
set_option maxRecDepth 100000 in
theorem okX4_isThing : okT mX4_isThing := by unfold okT; decide +kernel
set_option maxRecDepth 100000 in
theorem okX4_isValue : okT mX4_isValue := by unfold okT; decide +kernel
set_option maxRecDepth 100000 in
theorem okX4_makeThing : okT mX4_makeThing := by unfold okT; decide +kernel
set_option maxRecDepth 100000 in
theorem okX8_kindOf : okT mX8_kindOf := by unfold okT; decide +kernel
set_option maxRecDepth 100000 in
theorem okX8_aboveKind : okT mX8_aboveKind := by unfold okT; decide +kernel
set_option maxRecDepth 100000 in
theorem okX8_valueOf : okT mX8_valueOf := by unfold okT; decide +kernel
set_option maxRecDepth 100000 in
theorem okX8_isText : okT mX8_isText := by unfold okT; decide +kernel
set_option maxRecDepth 100000 in
theorem okX8_textSize : okT mX8_textSize := by unfold okT; decide +kernel
set_option maxRecDepth 100000 in
theorem okX8_init : okT mX8_init := by unfold okT; decide +kernel
set_option maxRecDepth 100000 in
theorem okX8_wide : okT mX8_wide := by unfold okT; decide +kernel
set_option maxRecDepth 100000 in
theorem okX8_refuseFortyFirst : okT mX8_refuseFortyFirst := by unfold okT; decide +kernel
set_option maxRecDepth 100000 in
theorem okX8_date : okT mX8_date := by unfold okT; decide +kernel
set_option maxRecDepth 100000 in
theorem okX8_bytes : okT mX8_bytes := by unfold okT; decide +kernel
set_option maxRecDepth 100000 in
theorem okX8_array : okT mX8_array := by unfold okT; decide +kernel
set_option maxRecDepth 100000 in
theorem okX8_canBeMembers : okT mX8_canBeMembers := by unfold okT; decide +kernel
set_option maxRecDepth 100000 in
theorem okX8_addMember : okT mX8_addMember := by unfold okT; decide +kernel
set_option maxRecDepth 100000 in
theorem okX8_traits : okT mX8_traits := by unfold okT; decide +kernel
set_option maxRecDepth 100000 in
theorem okX8_object : okT mX8_object := by unfold okT; decide +kernel
set_option maxRecDepth 100000 in
theorem okX8_kind : okT mX8_kind := by unfold okT; decide +kernel
set_option maxRecDepth 100000 in
theorem okX8_append : okT mX8_append := by unfold okT; decide +kernel
set_option maxRecDepth 100000 in
theorem okX8_hasItem : okT mX8_hasItem := by unfold okT; decide +kernel
set_option maxRecDepth 100000 in
theorem okX8_set : okT mX8_set := by unfold okT; decide +kernel
set_option maxRecDepth 100000 in
theorem okX8_canHaveKey : okT mX8_canHaveKey := by unfold okT; decide +kernel
set_option maxRecDepth 100000 in
theorem okX8_put : okT mX8_put := by unfold okT; decide +kernel
set_option maxRecDepth 100000 in
theorem okX8_allow : okT mX8_allow := by unfold okT; decide +kernel
set_option maxRecDepth 100000 in
theorem okX8_encode : okT mX8_encode := by unfold okT; decide +kernel
set_option maxRecDepth 100000 in
theorem okX8_decode : okT mX8_decode := by unfold okT; decide +kernel
set_option maxRecDepth 100000 in
theorem okX8_fault : okT mX8_fault := by unfold okT; decide +kernel
set_option maxRecDepth 100000 in
theorem okX8_size : okT mX8_size := by unfold okT; decide +kernel
set_option maxRecDepth 100000 in
theorem okX8_byteAt : okT mX8_byteAt := by unfold okT; decide +kernel
set_option maxRecDepth 100000 in
theorem okX8_alter : okT mX8_alter := by unfold okT; decide +kernel
set_option maxRecDepth 100000 in
theorem okX8_cut : okT mX8_cut := by unfold okT; decide +kernel
set_option maxRecDepth 100000 in
theorem okX8_things : okT mX8_things := by unfold okT; decide +kernel
set_option maxRecDepth 100000 in
theorem okX8_count : okT mX8_count := by unfold okT; decide +kernel
set_option maxRecDepth 100000 in
theorem okX8_item : okT mX8_item := by unfold okT; decide +kernel
set_option maxRecDepth 100000 in
theorem okX8_pairs : okT mX8_pairs := by unfold okT; decide +kernel
set_option maxRecDepth 100000 in
theorem okX8_pair : okT mX8_pair := by unfold okT; decide +kernel
set_option maxRecDepth 100000 in
theorem okX8_traitsOf : okT mX8_traitsOf := by unfold okT; decide +kernel
set_option maxRecDepth 100000 in
theorem okX8_bits : okT mX8_bits := by unfold okT; decide +kernel
set_option maxRecDepth 100000 in
theorem okX8_same : okT mX8_same := by unfold okT; decide +kernel
set_option maxRecDepth 100000 in
theorem okX8_clear : okT mX8_clear := by unfold okT; decide +kernel
set_option maxRecDepth 100000 in
theorem okX7_init : okT mX7_init := by unfold okT; decide +kernel
set_option maxRecDepth 100000 in
theorem okX7_start : okT mX7_start := by unfold okT; decide +kernel
set_option maxRecDepth 100000 in
theorem okX7_writeByte : okT mX7_writeByte := by unfold okT; decide +kernel
set_option maxRecDepth 100000 in
theorem okX7_writeNumber : okT mX7_writeNumber := by unfold okT; decide +kernel
set_option maxRecDepth 100000 in
theorem okX7_writeString : okT mX7_writeString := by unfold okT; decide +kernel
set_option maxRecDepth 100000 in
theorem okX7_writeTraits : okT mX7_writeTraits := by unfold okT; decide +kernel
set_option maxRecDepth 100000 in
theorem okX7_writeEight : okT mX7_writeEight := by unfold okT; decide +kernel
set_option maxRecDepth 100000 in
theorem okX7_writeBytes : okT mX7_writeBytes := by unfold okT; decide +kernel
set_option maxRecDepth 100000 in
theorem okX7_writeItems : okT mX7_writeItems := by unfold okT; decide +kernel
set_option maxRecDepth 100000 in
theorem okX7_writeObject : okT mX7_writeObject := by unfold okT; decide +kernel
set_option maxRecDepth 100000 in
theorem okX7_writePairs : okT mX7_writePairs := by unfold okT; decide +kernel
set_option maxRecDepth 100000 in
theorem okX7_writeThing : okT mX7_writeThing := by unfold okT; decide +kernel
set_option maxRecDepth 100000 in
theorem okX7_writeValue : okT mX7_writeValue := by unfold okT; decide +kernel
set_option maxRecDepth 100000 in
theorem okX2_init : okT mX2_init := by unfold okT; decide +kernel
set_option maxRecDepth 100000 in
theorem okX2_start : okT mX2_start := by unfold okT; decide +kernel
set_option maxRecDepth 100000 in
theorem okX2_keep : okT mX2_keep := by unfold okT; decide +kernel
set_option maxRecDepth 100000 in
theorem okX2_stopAt : okT mX2_stopAt := by unfold okT; decide +kernel
set_option maxRecDepth 100000 in
theorem okX2_knownTraits : okT mX2_knownTraits := by unfold okT; decide +kernel
set_option maxRecDepth 100000 in
theorem okX2_readByte : okT mX2_readByte := by unfold okT; decide +kernel
set_option maxRecDepth 100000 in
theorem okX2_readNumber : okT mX2_readNumber := by unfold okT; decide +kernel
set_option maxRecDepth 100000 in
theorem okX2_knownText : okT mX2_knownText := by unfold okT; decide +kernel
set_option maxRecDepth 100000 in
theorem okX2_readString : okT mX2_readString := by unfold okT; decide +kernel
set_option maxRecDepth 100000 in
theorem okX2_keepDraft : okT mX2_keepDraft := by unfold okT; decide +kernel
set_option maxRecDepth 100000 in
theorem okX2_readTraits : okT mX2_readTraits := by unfold okT; decide +kernel
set_option maxRecDepth 100000 in
theorem okX2_knownThing : okT mX2_knownThing := by unfold okT; decide +kernel
set_option maxRecDepth 100000 in
theorem okX2_readEight : okT mX2_readEight := by unfold okT; decide +kernel
set_option maxRecDepth 100000 in
theorem okX2_readDate : okT mX2_readDate := by unfold okT; decide +kernel
set_option maxRecDepth 100000 in
theorem okX2_readBytes : okT mX2_readBytes := by unfold okT; decide +kernel
set_option maxRecDepth 100000 in
theorem okX2_readInteger : okT mX2_readInteger := by unfold okT; decide +kernel
set_option maxRecDepth 100000 in
theorem okX2_readWide : okT mX2_readWide := by unfold okT; decide +kernel
set_option maxRecDepth 100000 in
theorem okX2_readArray : okT mX2_readArray := by unfold okT; decide +kernel
set_option maxRecDepth 100000 in
theorem okX2_readObject : okT mX2_readObject := by unfold okT; decide +kernel
set_option maxRecDepth 100000 in
theorem okX2_readPairs : okT mX2_readPairs := by unfold okT; decide +kernel
set_option maxRecDepth 100000 in
theorem okX2_readThing : okT mX2_readThing := by unfold okT; decide +kernel
set_option maxRecDepth 100000 in
theorem okX2_readValue : okT mX2_readValue := by unfold okT; decide +kernel
set_option maxRecDepth 100000 in
theorem okX1_init : okT mX1_init := by unfold okT; decide +kernel
set_option maxRecDepth 100000 in
theorem okX1_start : okT mX1_start := by unfold okT; decide +kernel
set_option maxRecDepth 100000 in
theorem okX1_becomePartners : okT mX1_becomePartners := by unfold okT; decide +kernel
set_option maxRecDepth 100000 in
theorem okX1_meet : okT mX1_meet := by unfold okT; decide +kernel
set_option maxRecDepth 100000 in
theorem okX1_meetAll : okT mX1_meetAll := by unfold okT; decide +kernel
set_option maxRecDepth 100000 in
theorem okX1_matchThings : okT mX1_matchThings := by unfold okT; decide +kernel
set_option maxRecDepth 100000 in
theorem okX1_matches : okT mX1_matches := by unfold okT; decide +kernel
set_option maxRecDepth 100000 in
theorem okX9_init : okT mX9_init := by unfold okT; decide +kernel
set_option maxRecDepth 100000 in
theorem okX9_thrown : okT mX9_thrown := by unfold okT; decide +kernel
set_option maxRecDepth 100000 in
theorem okX9_letters : okT mX9_letters := by unfold okT; decide +kernel
set_option maxRecDepth 100000 in
theorem okX9_isText : okT mX9_isText := by unfold okT; decide +kernel
set_option maxRecDepth 100000 in
theorem okX9_isValue : okT mX9_isValue := by unfold okT; decide +kernel
set_option maxRecDepth 100000 in
theorem okX9_isThing : okT mX9_isThing := by unfold okT; decide +kernel
set_option maxRecDepth 100000 in
theorem okX9_newWide : okT mX9_newWide := by unfold okT; decide +kernel
set_option maxRecDepth 100000 in
theorem okX9_wide : okT mX9_wide := by unfold okT; decide +kernel
set_option maxRecDepth 100000 in
theorem okX9_newThing : okT mX9_newThing := by unfold okT; decide +kernel
set_option maxRecDepth 100000 in
theorem okX9_valueOf : okT mX9_valueOf := by unfold okT; decide +kernel
set_option maxRecDepth 100000 in
theorem okX9_date : okT mX9_date := by unfold okT; decide +kernel
set_option maxRecDepth 100000 in
theorem okX9_bytes : okT mX9_bytes := by unfold okT; decide +kernel
set_option maxRecDepth 100000 in
theorem okX9_array : okT mX9_array := by unfold okT; decide +kernel
set_option maxRecDepth 100000 in
theorem okX9_alike : okT mX9_alike := by unfold okT; decide +kernel
set_option maxRecDepth 100000 in
theorem okX9_newTraits : okT mX9_newTraits := by unfold okT; decide +kernel
set_option maxRecDepth 100000 in
theorem okX9_traits : okT mX9_traits := by unfold okT; decide +kernel
set_option maxRecDepth 100000 in
theorem okX9_object : okT mX9_object := by unfold okT; decide +kernel
set_option maxRecDepth 100000 in
theorem okX9_append : okT mX9_append := by unfold okT; decide +kernel
set_option maxRecDepth 100000 in
theorem okX9_hasItems : okT mX9_hasItems := by unfold okT; decide +kernel
set_option maxRecDepth 100000 in
theorem okX9_set : okT mX9_set := by unfold okT; decide +kernel
set_option maxRecDepth 100000 in
theorem okX9_hasPairs : okT mX9_hasPairs := by unfold okT; decide +kernel
set_option maxRecDepth 100000 in
theorem okX9_isMember : okT mX9_isMember := by unfold okT; decide +kernel
set_option maxRecDepth 100000 in
theorem okX9_pairAt : okT mX9_pairAt := by unfold okT; decide +kernel
set_option maxRecDepth 100000 in
theorem okX9_put : okT mX9_put := by unfold okT; decide +kernel
set_option maxRecDepth 100000 in
theorem okX9_isAllowed : okT mX9_isAllowed := by unfold okT; decide +kernel
set_option maxRecDepth 100000 in
theorem okX9_allow : okT mX9_allow := by unfold okT; decide +kernel
set_option maxRecDepth 100000 in
theorem okX9_emit : okT mX9_emit := by unfold okT; decide +kernel
set_option maxRecDepth 100000 in
theorem okX9_emitNumber : okT mX9_emitNumber := by unfold okT; decide +kernel
set_option maxRecDepth 100000 in
theorem okX9_emitEight : okT mX9_emitEight := by unfold okT; decide +kernel
set_option maxRecDepth 100000 in
theorem okX9_emitString : okT mX9_emitString := by unfold okT; decide +kernel
set_option maxRecDepth 100000 in
theorem okX9_push : okT mX9_push := by unfold okT; decide +kernel
set_option maxRecDepth 100000 in
theorem okX9_emitTraits : okT mX9_emitTraits := by unfold okT; decide +kernel
set_option maxRecDepth 100000 in
theorem okX9_emitThing : okT mX9_emitThing := by unfold okT; decide +kernel
set_option maxRecDepth 100000 in
theorem okX9_emitValue : okT mX9_emitValue := by unfold okT; decide +kernel
set_option maxRecDepth 100000 in
theorem okX9_goOn : okT mX9_goOn := by unfold okT; decide +kernel
set_option maxRecDepth 100000 in
theorem okX9_clearLists : okT mX9_clearLists := by unfold okT; decide +kernel
set_option maxRecDepth 100000 in
theorem okX9_encode : okT mX9_encode := by unfold okT; decide +kernel
set_option maxRecDepth 100000 in
theorem okX9_stopAt : okT mX9_stopAt := by unfold okT; decide +kernel
set_option maxRecDepth 100000 in
theorem okX9_goes : okT mX9_goes := by unfold okT; decide +kernel
set_option maxRecDepth 100000 in
theorem okX9_take : okT mX9_take := by unfold okT; decide +kernel
set_option maxRecDepth 100000 in
theorem okX9_takeNumber : okT mX9_takeNumber := by unfold okT; decide +kernel
set_option maxRecDepth 100000 in
theorem okX9_takeEight : okT mX9_takeEight := by unfold okT; decide +kernel
set_option maxRecDepth 100000 in
theorem okX9_takeString : okT mX9_takeString := by unfold okT; decide +kernel
set_option maxRecDepth 100000 in
theorem okX9_takeTraits : okT mX9_takeTraits := by unfold okT; decide +kernel
set_option maxRecDepth 100000 in
theorem okX9_takeThing : okT mX9_takeThing := by unfold okT; decide +kernel
set_option maxRecDepth 100000 in
theorem okX9_takeValue : okT mX9_takeValue := by unfold okT; decide +kernel
set_option maxRecDepth 100000 in
theorem okX9_give : okT mX9_give := by unfold okT; decide +kernel
set_option maxRecDepth 100000 in
theorem okX9_readOn : okT mX9_readOn := by unfold okT; decide +kernel
set_option maxRecDepth 100000 in
theorem okX9_decode : okT mX9_decode := by unfold okT; decide +kernel
set_option maxRecDepth 100000 in
theorem okX9_fault : okT mX9_fault := by unfold okT; decide +kernel
set_option maxRecDepth 100000 in
theorem okX9_size : okT mX9_size := by unfold okT; decide +kernel
set_option maxRecDepth 100000 in
theorem okX9_byteAt : okT mX9_byteAt := by unfold okT; decide +kernel
set_option maxRecDepth 100000 in
theorem okX9_alter : okT mX9_alter := by unfold okT; decide +kernel
set_option maxRecDepth 100000 in
theorem okX9_cut : okT mX9_cut := by unfold okT; decide +kernel
set_option maxRecDepth 100000 in
theorem okX9_things : okT mX9_things := by unfold okT; decide +kernel
set_option maxRecDepth 100000 in
theorem okX9_kind : okT mX9_kind := by unfold okT; decide +kernel
set_option maxRecDepth 100000 in
theorem okX9_count : okT mX9_count := by unfold okT; decide +kernel
set_option maxRecDepth 100000 in
theorem okX9_item : okT mX9_item := by unfold okT; decide +kernel
set_option maxRecDepth 100000 in
theorem okX9_pairs : okT mX9_pairs := by unfold okT; decide +kernel
set_option maxRecDepth 100000 in
theorem okX9_pair : okT mX9_pair := by unfold okT; decide +kernel
set_option maxRecDepth 100000 in
theorem okX9_traitsOf : okT mX9_traitsOf := by unfold okT; decide +kernel
set_option maxRecDepth 100000 in
theorem okX9_bits : okT mX9_bits := by unfold okT; decide +kernel
set_option maxRecDepth 100000 in
theorem okX9_areSame : okT mX9_areSame := by unfold okT; decide +kernel
set_option maxRecDepth 100000 in
theorem okX9_areAlike : okT mX9_areAlike := by unfold okT; decide +kernel
set_option maxRecDepth 100000 in
theorem okX9_same : okT mX9_same := by unfold okT; decide +kernel
set_option maxRecDepth 100000 in
theorem okX9_clear : okT mX9_clear := by unfold okT; decide +kernel
set_option maxRecDepth 100000 in
theorem okJ7_fill_53178 : okT mJ7_fill_53178 := by unfold okT; decide +kernel
set_option maxRecDepth 100000 in
theorem okJ9_max_7cf53 : okT mJ9_max_7cf53 := by unfold okT; decide +kernel
end
section
/-! THE MEMORY: cells by keys (region, place); ints and longs of each cell by their place; references never change once made -/
abbrev Ky : Type := Nat × Nat
abbrev Mm : Type := (Ky → Nat → Int32) × (Ky → Nat → Int64)
def ui (M : Mm) (k : Ky) (j : Nat) (x : Int32) : Mm := (fun a b => if a = k ∧ b = j then x else M.1 a b, M.2)
def ul (M : Mm) (k : Ky) (j : Nat) (x : Int64) : Mm := (M.1, fun a b => if a = k ∧ b = j then x else M.2 a b)
/-- what is fixed: the launch, class numbers and slots, array classes, addresses, the first new address, the heap and the state at the law's entry -/
abbrev Gd : Type := Launch × va_G × (Nat → ClassId) × (Ky → Nat) × Nat × Heap × State
def gl (G : Gd) : Launch := G.1
def gD (G : Gd) : va_G := G.2.1
def gk (G : Gd) : Nat → ClassId := G.2.2.1
def ga (G : Gd) : Ky → Nat := G.2.2.2.1
def gb (G : Gd) : Nat := G.2.2.2.2.1
def gH (G : Gd) : Heap := G.2.2.2.2.2.1
def gs (G : Gd) : State := G.2.2.2.2.2.2
def rv (G : Gd) (r : Option Ky) : Value := match r with | some k => .ref (ga G k) | none => .null
def cval (G : Gd) (M : Mm) (k : Ky) (ty : FieldType) (j : Nat) : Value := match ty with
  | .int => .int (M.1 k j)
  | .boolean => .int (M.1 k j)
  | .long => .long (M.2 k j)
  | _ => rv G (rf k j)
def nfl (ci : Nat) : Nat := match vwCl[ci]? with | some q => q.2.2 | none => 0
def cellR (G : Gd) (M : Mm) (k : Ky) (sp : Nat ⊕ (Nat × Nat)) (H : Heap) : Prop := match sp with
  | .inl ci => t_OB (ga G k) ((gD G).1 ci) (nfl ci) ((gD G).2 ci) H (fun j => cval G M k (ftyp ci j) j)
  | .inr q => H[ga G k]? = some (arrV (gk G q.1) q.2 (fun j => cval G M k (aty q.1) j))
def Rep (G : Gd) (M : Mm) (H : Heap) : Prop := ∀ (k : Ky) (sp : Nat ⊕ (Nat × Nat)), shp k.1 = some sp → k.2 < cnt k.1 → cellR G M k sp H
def tysG (G : Gd) : List (ClassId × FieldType) := [(gk G 0, aty 0), (gk G 1, aty 1), (gk G 2, aty 2), (gk G 3, aty 3), (gk G 4, aty 4)]
/-- a word that stays where the tables only grow warmer -/
def okw (w : Cond) : Bool := goodWord w || (match w with | .fieldLinkNest .. => true | .methodLinkNest .. => true | .declares .. => true | .castable .. => true | _ => false)
theorem okw_at {w : Cond} {args a' : Array Value} {s U : State} (h : okw w = true) (hb : w.before args s = true) (hW : s.WarmedH U.vm) : w.before a' U = true := by
  by_cases hg : goodWord w = true
  · exact word_at hW (good_of_word hg) hb
  · cases w with
    | fieldLinkNest a i b n d ho => exact va_Nw.use rfl (va_Nw.warmF hW (va_Nw.of rfl hb))
    | methodLinkNest a i x ho => exact va_Nw.use rfl (va_Nw.warmM hW (va_Nw.of rfl hb))
    | declares x => exact va_Nw.use rfl (va_Nw.warmD hW (va_Nw.of rfl hb))
    | castable a b => exact va_Nw.use rfl (va_Nw.warmC hW (va_Nw.of rfl hb))
    | _ => simp [okw, hg] at h
/-- what holds of what is fixed -/
def Gok (G : Gd) : Prop :=
  (∀ w ∈ lw_tbl, okw w = true → ∀ (a' : Array Value) (U : State), (gs G).WarmedH U.vm → w.before a' U = true) ∧
  va_K (gD G) vwCl (tysG G) (gs G) ∧
  (∀ k k' : Ky, (shp k.1).isSome = true → k.2 < cnt k.1 → (shp k'.1).isSome = true → k'.2 < cnt k'.1 → ga G k = ga G k' → k = k') ∧
  (∀ k : Ky, (shp k.1).isSome = true → k.2 < cnt k.1 → gb G ≤ ga G k) ∧
  (gl G).stackTraces = false ∧
  vx_Zq Bundle.tN "UNASSIGNED_STACK" Bundle.steD (fun q => gb G ≤ q) (gs G) (gH G) ∧ vx_Zq Bundle.tN "SUPPRESSED_SENTINEL" Bundle.listD (fun q => gb G ≤ q) (gs G) (gH G) ∧ gb G = (gH G).size
/-- the heap holds the memory, and below the first new address nothing has changed -/
def HqE (G : Gd) (M : Mm) (H : Heap) : Prop := Rep G M H ∧ (∀ q : Nat, q < gb G → H[q]? = (gH G)[q]?) ∧ gb G ≤ H.size
def Hq (G : Gd) (M : Mm) (s : State) (H : Heap) (locs : List Loc) : Prop := HqE G M H ∧ s.heap.size ≤ H.size ∧ ∀ z ∈ locs, gb G ≤ z.base
/-- the frame of a method y that is walked: its code, its tables, its room -/
def Cx (G : Gd) (y : Mt) (d kf : Nat) (p : Program) (R : Room) (s : State) (m : MethodId) (meth : Method) (c : Code) : Prop :=
  Gok G ∧ okT y ∧ p.tables.exec = Jvm.exec ∧ c.code = yB y ∧ meth.sig.returnType = yR y ∧ meth.locks = false ∧ c.maxLocals = yL y ∧ s.vm.findClass (cnm (yC y)) = some m.cls ∧ (gs G).WarmedH s.vm ∧
  (∀ q : Nat, q < gb G → s.heap[q]? = (gH G)[q]?) ∧ gb G ≤ s.heap.size ∧ d ≤ R.frames ∧ 64 * d ≤ R.locals ∧ kf ≤ R.cells ∧ 6 * kf ≤ R.slots
abbrev Zt : Type := List Frame → Array Value → State → State → Prop
def Fr (G : Gd) (y : Mt) (d kf : Nat) (Z : Zt) (k pc : Nat) (lv : List (Nat × Value)) (st : List Value) (M : Mm) : Prop :=
  ∀ (p : Program) (e : Env) (R : Room) (s : State) (m : MethodId) (args : Array Value) (below : List Frame) (meth : Method) (c : Code) (H : Heap) (locs : List Loc) (ls : Array Slot),
    Cx G y d kf p R s m meth c → (∀ x ∈ c.exceptionTable.toList, False) → Hq G M s H locs → lv_has ls (yL y) lv →
    W p (gl G) e R s m args below meth c H locs k (6 * k) (Z below args s) (F0 m pc ls st)
/-- outcomes: what is returned, or the class of what is thrown -/
abbrev Oc : Type := Option Value ⊕ String
def Qcc (G : Gd) (o : Oc) (M' : Mm) : Array Value → State → Outcome → State → Prop := fun _ _ oc t => ∃ v, o = .inl v ∧ oc = .returned v ∧ HqE G M' t.heap
def XCc (G : Gd) (o : Oc) (M' : Mm) : String → State → State → Prop := fun E _ t => o = .inr E ∧ HqE G M' t.heap
def Zm (G : Gd) (o : Oc) (M' : Mm) (kf : Nat) : Zt := fun below args s => vx_MQ below (Qcc G o M') (XCc G o M') args s kf (6 * kf) (fun q => gb G ≤ q)
def Pcc (G : Gd) (av : List Value) (M : Mm) : Array Value → State → Prop := fun v U => v = av.toArray ∧ HqE G M U.heap ∧ (gs G).WarmedH U.vm
def rmO (d kf : Nat) : Room := { frames := d, cells := kf, slots := 6 * kf, locals := 64 * d }
/-- the contract of a method: from these arguments and this memory it ends so, with that memory, kf new cells at most -/
def Ct (G : Gd) (y : Mt) (d : Nat) (av : List Value) (M : Mm) (o : Oc) (M' : Mm) (kf : Nat) : Prop :=
  vx_Met (gl G) (yN y) [.code (yN y) (yB y) (yL y) (yR y)] (rmO d kf) (Pcc G av M) (Qcc G o M') (XCc G o M') kf (6 * kf) (fun q => gb G ≤ q)
theorem okT.get {y : Mt} (h : okT y) {pc n t : Nat} {i : Instr} (hi : tget (yT y) pc = some (i, n, t)) : decode (yB y) pc = .ok (i, n - pc) ∧ pc ≤ n ∧ ∀ o, tgo i = some o → (pc : Int) + o = (t : Int) := by
  have h1 := List.all_eq_true.mp h _ (tget_mem hi)
  simp only [chkR, Bool.and_eq_true, decide_eq_true_eq] at h1
  refine ⟨h1.1.1, h1.1.2, fun o ho => ?_⟩
  have h2 := h1.2
  rw [ho] at h2
  exact of_decide_eq_true h2
/-- locals: kept by their places -/
def lflt (c i : Nat) (q : Nat × Value) : Bool := !(Nat.beq q.1 i) && !(Nat.beq (q.1 + 1) i && Nat.beq q.2.category 2) && !(Nat.beq c 2 && Nat.beq q.1 (i + 1))
def lkeep (c i : Nat) : List (Nat × Value) → Option (List (Nat × Value))
  | [] => some []
  | q :: t => match lkeep c i t with
    | some t' => bif lflt c i q then some (q :: t') else some t'
    | none => none
def lins (v : Value) (i : Nat) : List (Nat × Value) → Option (List (Nat × Value))
  | [] => some [(i, v)]
  | q :: t => bif Nat.blt i q.1 then (match lkeep v.category i (q :: t) with
      | some t' => some ((i, v) :: t')
      | none => none)
    else (match lins v i t with
      | some t' => bif lflt v.category i q then some (q :: t') else some t'
      | none => none)
theorem lkeep_mem {c i : Nat} : ∀ {l l' : List (Nat × Value)}, lkeep c i l = some l' → ∀ q ∈ l', q ∈ l ∧ lflt c i q = true
  | [], l', h, q, hq => by cases h; cases hq
  | a :: t, l', h, q, hq => by
    unfold lkeep at h
    cases ht : lkeep c i t with
    | none => rw [ht] at h; cases h
    | some t' =>
      rw [ht] at h
      dsimp only at h
      cases hf : lflt c i a with
      | true =>
        rw [hf] at h
        cases h
        rcases List.mem_cons.mp hq with rfl | hq
        · exact ⟨List.mem_cons_self, hf⟩
        · exact ⟨List.mem_cons_of_mem _ (lkeep_mem ht q hq).1, (lkeep_mem ht q hq).2⟩
      | false =>
        rw [hf] at h
        cases h
        exact ⟨List.mem_cons_of_mem _ (lkeep_mem ht q hq).1, (lkeep_mem ht q hq).2⟩
theorem lins_mem {v : Value} {i : Nat} : ∀ {l l' : List (Nat × Value)}, lins v i l = some l' → ∀ q ∈ l', q = (i, v) ∨ (q ∈ l ∧ lflt v.category i q = true)
  | [], l', h, q, hq => by
    cases h
    rcases List.mem_cons.mp hq with rfl | hq
    · exact Or.inl rfl
    · cases hq
  | a :: t, l', h, q, hq => by
    unfold lins at h
    cases hb : Nat.blt i a.1 with
    | true =>
      rw [hb] at h
      dsimp only [cond] at h
      cases hk : lkeep v.category i (a :: t) with
      | none => rw [hk] at h; cases h
      | some t' =>
        rw [hk] at h
        cases h
        rcases List.mem_cons.mp hq with rfl | hq
        · exact Or.inl rfl
        · exact Or.inr (lkeep_mem hk q hq)
    | false =>
      rw [hb] at h
      dsimp only [cond] at h
      cases hk : lins v i t with
      | none => rw [hk] at h; cases h
      | some t' =>
        rw [hk] at h
        dsimp only at h
        have key : ∀ q ∈ t', q = (i, v) ∨ (q ∈ a :: t ∧ lflt v.category i q = true) := fun q hq => by
          rcases lins_mem hk q hq with h1 | ⟨h1, h2⟩
          · exact Or.inl h1
          · exact Or.inr ⟨List.mem_cons_of_mem _ h1, h2⟩
        cases hf : lflt v.category i a with
        | true =>
          rw [hf] at h
          cases h
          rcases List.mem_cons.mp hq with rfl | hq
          · exact Or.inr ⟨List.mem_cons_self, hf⟩
          · exact key q hq
        | false =>
          rw [hf] at h
          cases h
          exact key q hq
theorem lv_weak {ls : Array Slot} {n : Nat} {l l' : List (Nat × Value)} (h : lv_has ls n l) (hs : ∀ q ∈ l', q ∈ l) : lv_has ls n l' := ⟨h.1, h.2.1, fun q hq => h.2.2 q (hs q hq)⟩
theorem lv_of {ls : Array Slot} {n i : Nat} {l : List (Nat × Value)} {v : Value} (h : lv_has ls n l) (hi : tget l i = some v) : ls[i]? = some (.val v) := h.2.2 (i, v) (tget_mem hi)
theorem beqT {a b : Nat} (h : a = b) : Nat.beq a b = true := by rw [h]; exact Nat.beq_refl b
theorem beqN (a b : Nat) : (a == b) = Nat.beq a b := by
  cases h : Nat.beq a b with
  | true => rw [Nat.eq_of_beq_eq_true h]; exact beq_self_eq_true b
  | false =>
    apply beq_eq_false_iff_ne.mpr
    intro e
    rw [beqT e] at h
    cases h
theorem lflt1 {i : Nat} {q : Nat × Value} {c : Nat} (h : lflt c i q = true) : (!(q.1 == i) && !(q.1 + 1 == i && q.2.category == 2)) = true := by
  simp only [lflt, Bool.and_eq_true] at h
  simp only [beqN, Bool.and_eq_true]
  exact h.1
theorem lflt2 {i : Nat} {q : Nat × Value} (h : lflt 2 i q = true) : (!(q.1 == i) && (!(q.1 == i + 1) && !(q.1 + 1 == i && q.2.category == 2))) = true := by
  have h3 : (!(Nat.beq 2 2 && Nat.beq q.1 (i + 1))) = true := by
    simp only [lflt, Bool.and_eq_true] at h
    exact h.2
  have h4 := lflt1 h
  simp only [beqN, Bool.and_eq_true] at h4 ⊢
  exact ⟨h4.1, h3, h4.2⟩
end
section
theorem nI_ofInt {n : Int} (h : 0 ≤ n) : Int32.ofInt n = nI n.toNat := by
  obtain ⟨k, rfl⟩ := Int.eq_ofNat_of_zero_le h
  rfl
theorem lgc_eq (x y : Int64) : lg_cmp x y = 0 ↔ x = y := lg_cmp_eq x y
theorem lgc_lt (x y : Int64) : lg_cmp x y < 0 ↔ x < y := lg_cmp_lt x y
theorem lgc_le (x y : Int64) : lg_cmp x y ≤ 0 ↔ x ≤ y := lg_cmp_le x y

section XR
variable {G : Gd} {y : Mt} {d kf : Nat} {Z : Zt} {k pc n t : Nat} {lv lv' : List (Nat × Value)} {st : List Value} {M : Mm}
theorem x_iload_n {i : Fin 4} {x : Int32} (hi : tget (yT y) pc = some (.iload_n i, n, t)) (hn : pc + 1 = n) (hl : tget lv (i : Nat) = some (.int x)) (kk : Fr G y d kf Z k n lv (.int x :: st) M) : Fr G y d kf Z k pc lv (st) M := by
  intro p e R s m args below meth c H locs ls C hx hH hL
  obtain ⟨hg, hok, ha, hb, hret, hlk, hml, hown, hwm, -⟩ := id C
  have hd := (hok.get hi).1
  subst hn
  rw [Nat.add_sub_cancel_left] at hd
  exact lv_iload_n ha hb hd rfl (lv_of hL hl) (kk p e R s m args below meth c H locs ls C hx hH hL)
theorem x_iload {i : Nat} {x : Int32} (hi : tget (yT y) pc = some (.iload i, n, t)) (hn : pc + 2 = n) (hl : tget lv i = some (.int x)) (kk : Fr G y d kf Z k n lv (.int x :: st) M) : Fr G y d kf Z k pc lv (st) M := by
  intro p e R s m args below meth c H locs ls C hx hH hL
  obtain ⟨hg, hok, ha, hb, hret, hlk, hml, hown, hwm, -⟩ := id C
  have hd := (hok.get hi).1
  subst hn
  rw [Nat.add_sub_cancel_left] at hd
  exact lv_iload ha hb hd (lv_of hL hl) (kk p e R s m args below meth c H locs ls C hx hH hL)
theorem x_lload_n {i : Fin 4} {x : Int64} (hi : tget (yT y) pc = some (.lload_n i, n, t)) (hn : pc + 1 = n) (hl : tget lv (i : Nat) = some (.long x)) (kk : Fr G y d kf Z k n lv (.long x :: st) M) : Fr G y d kf Z k pc lv (st) M := by
  intro p e R s m args below meth c H locs ls C hx hH hL
  obtain ⟨hg, hok, ha, hb, hret, hlk, hml, hown, hwm, -⟩ := id C
  have hd := (hok.get hi).1
  subst hn
  rw [Nat.add_sub_cancel_left] at hd
  exact lv_lload_n ha hb hd rfl (lv_of hL hl) (kk p e R s m args below meth c H locs ls C hx hH hL)
theorem x_lload {i : Nat} {x : Int64} (hi : tget (yT y) pc = some (.lload i, n, t)) (hn : pc + 2 = n) (hl : tget lv i = some (.long x)) (kk : Fr G y d kf Z k n lv (.long x :: st) M) : Fr G y d kf Z k pc lv (st) M := by
  intro p e R s m args below meth c H locs ls C hx hH hL
  obtain ⟨hg, hok, ha, hb, hret, hlk, hml, hown, hwm, -⟩ := id C
  have hd := (hok.get hi).1
  subst hn
  rw [Nat.add_sub_cancel_left] at hd
  exact lv_lload ha hb hd (lv_of hL hl) (kk p e R s m args below meth c H locs ls C hx hH hL)
theorem x_aload_n {i : Fin 4} {x : Nat} (hi : tget (yT y) pc = some (.aload_n i, n, t)) (hn : pc + 1 = n) (hl : tget lv (i : Nat) = some (.ref x)) (kk : Fr G y d kf Z k n lv (.ref x :: st) M) : Fr G y d kf Z k pc lv (st) M := by
  intro p e R s m args below meth c H locs ls C hx hH hL
  obtain ⟨hg, hok, ha, hb, hret, hlk, hml, hown, hwm, -⟩ := id C
  have hd := (hok.get hi).1
  subst hn
  rw [Nat.add_sub_cancel_left] at hd
  exact lv_aload_n ha hb hd rfl (lv_of hL hl) (kk p e R s m args below meth c H locs ls C hx hH hL)
theorem x_aload {i : Nat} {x : Nat} (hi : tget (yT y) pc = some (.aload i, n, t)) (hn : pc + 2 = n) (hl : tget lv i = some (.ref x)) (kk : Fr G y d kf Z k n lv (.ref x :: st) M) : Fr G y d kf Z k pc lv (st) M := by
  intro p e R s m args below meth c H locs ls C hx hH hL
  obtain ⟨hg, hok, ha, hb, hret, hlk, hml, hown, hwm, -⟩ := id C
  have hd := (hok.get hi).1
  subst hn
  rw [Nat.add_sub_cancel_left] at hd
  exact lv_aload ha hb hd (lv_of hL hl) (kk p e R s m args below meth c H locs ls C hx hH hL)
theorem x_istore_n {i : Fin 4} {x : Int32} (hi : tget (yT y) pc = some (.istore_n i, n, t)) (hn : pc + 1 = n) (hb2 : Nat.blt (i : Nat) (yL y) = true) (hs : lins (.int x) (i : Nat) lv = some lv') (kk : Fr G y d kf Z k n lv' st M) : Fr G y d kf Z k pc lv (.int x :: st) M := by
  intro p e R s m args below meth c H locs ls C hx hH hL
  obtain ⟨hg, hok, ha, hb, hret, hlk, hml, hown, hwm, -⟩ := id C
  have hd := (hok.get hi).1
  subst hn
  rw [Nat.add_sub_cancel_left] at hd
  refine lv_istore_n ha hb hd rfl hL (Nat.le_of_ble_eq_true hb2) rfl (fun ls' hL' => ?_)
  refine kk p e R s m args below meth c H locs ls' C hx hH (lv_weak hL' fun q hq => ?_)
  rcases lins_mem hs q hq with rfl | ⟨h1, h2⟩
  · exact List.mem_cons_self
  · exact List.mem_cons_of_mem _ (List.mem_filter.mpr ⟨h1, lflt1 h2⟩)
theorem x_istore {i : Nat} {x : Int32} (hi : tget (yT y) pc = some (.istore i, n, t)) (hn : pc + 2 = n) (hb2 : Nat.blt i (yL y) = true) (hs : lins (.int x) i lv = some lv') (kk : Fr G y d kf Z k n lv' st M) : Fr G y d kf Z k pc lv (.int x :: st) M := by
  intro p e R s m args below meth c H locs ls C hx hH hL
  obtain ⟨hg, hok, ha, hb, hret, hlk, hml, hown, hwm, -⟩ := id C
  have hd := (hok.get hi).1
  subst hn
  rw [Nat.add_sub_cancel_left] at hd
  refine lv_istore ha hb hd hL (Nat.le_of_ble_eq_true hb2) rfl (fun ls' hL' => ?_)
  refine kk p e R s m args below meth c H locs ls' C hx hH (lv_weak hL' fun q hq => ?_)
  rcases lins_mem hs q hq with rfl | ⟨h1, h2⟩
  · exact List.mem_cons_self
  · exact List.mem_cons_of_mem _ (List.mem_filter.mpr ⟨h1, lflt1 h2⟩)
theorem x_lstore_n {i : Fin 4} {x : Int64} (hi : tget (yT y) pc = some (.lstore_n i, n, t)) (hn : pc + 1 = n) (hb2 : Nat.blt ((i : Nat) + 1) (yL y) = true) (hs : lins (.long x) (i : Nat) lv = some lv') (kk : Fr G y d kf Z k n lv' st M) : Fr G y d kf Z k pc lv (.long x :: st) M := by
  intro p e R s m args below meth c H locs ls C hx hH hL
  obtain ⟨hg, hok, ha, hb, hret, hlk, hml, hown, hwm, -⟩ := id C
  have hd := (hok.get hi).1
  subst hn
  rw [Nat.add_sub_cancel_left] at hd
  refine lv_lstore_n ha hb hd rfl hL (Nat.le_of_ble_eq_true hb2) rfl (fun ls' hL' => ?_)
  refine kk p e R s m args below meth c H locs ls' C hx hH (lv_weak hL' fun q hq => ?_)
  rcases lins_mem hs q hq with rfl | ⟨h1, h2⟩
  · exact List.mem_cons_self
  · exact List.mem_cons_of_mem _ (List.mem_filter.mpr ⟨h1, lflt2 h2⟩)
theorem x_lstore {i : Nat} {x : Int64} (hi : tget (yT y) pc = some (.lstore i, n, t)) (hn : pc + 2 = n) (hb2 : Nat.blt (i + 1) (yL y) = true) (hs : lins (.long x) i lv = some lv') (kk : Fr G y d kf Z k n lv' st M) : Fr G y d kf Z k pc lv (.long x :: st) M := by
  intro p e R s m args below meth c H locs ls C hx hH hL
  obtain ⟨hg, hok, ha, hb, hret, hlk, hml, hown, hwm, -⟩ := id C
  have hd := (hok.get hi).1
  subst hn
  rw [Nat.add_sub_cancel_left] at hd
  refine lv_lstore ha hb hd hL (Nat.le_of_ble_eq_true hb2) rfl (fun ls' hL' => ?_)
  refine kk p e R s m args below meth c H locs ls' C hx hH (lv_weak hL' fun q hq => ?_)
  rcases lins_mem hs q hq with rfl | ⟨h1, h2⟩
  · exact List.mem_cons_self
  · exact List.mem_cons_of_mem _ (List.mem_filter.mpr ⟨h1, lflt2 h2⟩)
theorem x_astore_n {i : Fin 4} {x : Nat} (hi : tget (yT y) pc = some (.astore_n i, n, t)) (hn : pc + 1 = n) (hb2 : Nat.blt (i : Nat) (yL y) = true) (hs : lins (.ref x) (i : Nat) lv = some lv') (kk : Fr G y d kf Z k n lv' st M) : Fr G y d kf Z k pc lv (.ref x :: st) M := by
  intro p e R s m args below meth c H locs ls C hx hH hL
  obtain ⟨hg, hok, ha, hb, hret, hlk, hml, hown, hwm, -⟩ := id C
  have hd := (hok.get hi).1
  subst hn
  rw [Nat.add_sub_cancel_left] at hd
  refine lv_astore_n ha hb hd rfl hL (Nat.le_of_ble_eq_true hb2) rfl (fun ls' hL' => ?_)
  refine kk p e R s m args below meth c H locs ls' C hx hH (lv_weak hL' fun q hq => ?_)
  rcases lins_mem hs q hq with rfl | ⟨h1, h2⟩
  · exact List.mem_cons_self
  · exact List.mem_cons_of_mem _ (List.mem_filter.mpr ⟨h1, lflt1 h2⟩)
theorem x_astore {i : Nat} {x : Nat} (hi : tget (yT y) pc = some (.astore i, n, t)) (hn : pc + 2 = n) (hb2 : Nat.blt i (yL y) = true) (hs : lins (.ref x) i lv = some lv') (kk : Fr G y d kf Z k n lv' st M) : Fr G y d kf Z k pc lv (.ref x :: st) M := by
  intro p e R s m args below meth c H locs ls C hx hH hL
  obtain ⟨hg, hok, ha, hb, hret, hlk, hml, hown, hwm, -⟩ := id C
  have hd := (hok.get hi).1
  subst hn
  rw [Nat.add_sub_cancel_left] at hd
  refine lv_astore ha hb hd hL (Nat.le_of_ble_eq_true hb2) rfl (fun ls' hL' => ?_)
  refine kk p e R s m args below meth c H locs ls' C hx hH (lv_weak hL' fun q hq => ?_)
  rcases lins_mem hs q hq with rfl | ⟨h1, h2⟩
  · exact List.mem_cons_self
  · exact List.mem_cons_of_mem _ (List.mem_filter.mpr ⟨h1, lflt1 h2⟩)
theorem x_iinc {i : Nat} {b : Int} {x v : Int32} (hi : tget (yT y) pc = some (.iinc i b, n, t)) (hn : pc + 3 = n) (hl : tget lv i = some (.int x)) (hv : x + Int32.ofInt b = v) (hb2 : Nat.blt i (yL y) = true) (hs : lins (.int v) i lv = some lv') (kk : Fr G y d kf Z k n lv' st M) : Fr G y d kf Z k pc lv st M := by
  intro p e R s m args below meth c H locs ls C hx hH hL
  obtain ⟨hg, hok, ha, hb, hret, hlk, hml, hown, hwm, -⟩ := id C
  have hd := (hok.get hi).1
  subst hn
  rw [Nat.add_sub_cancel_left] at hd
  obtain ⟨kq, hkq⟩ := List.getElem?_of_mem (tget_mem hl)
  refine lv_iinc ha hb hd hL hkq hv (Nat.le_of_ble_eq_true hb2) rfl (fun ls' hL' => ?_)
  refine kk p e R s m args below meth c H locs ls' C hx hH (lv_weak hL' fun q hq => ?_)
  rcases lins_mem hs q hq with rfl | ⟨h1, h2⟩
  · exact List.mem_cons_self
  · exact List.mem_cons_of_mem _ (List.mem_filter.mpr ⟨h1, lflt1 h2⟩)
theorem x_iincN {i a b : Nat} (hi : tget (yT y) pc = some (.iinc i (b : Int), n, t)) (hn : pc + 3 = n) (hl : tget lv i = some (.int (nI a))) (hb2 : Nat.blt i (yL y) = true) (hs : lins (.int (nI (a + b))) i lv = some lv') (kk : Fr G y d kf Z k n lv' st M) : Fr G y d kf Z k pc lv st M :=
  x_iinc hi hn hl (nI_add a b) hb2 hs kk
theorem x_iconst {b : Int} {v : Int32} (hi : tget (yT y) pc = some (.iconst b, n, t)) (hn : pc + 1 = n) (hv : Int32.ofInt b = v) (kk : Fr G y d kf Z k n lv (.int v :: st) M) : Fr G y d kf Z k pc lv (st) M := by
  intro p e R s m args below meth c H locs ls C hx hH hL
  obtain ⟨hg, hok, ha, hb, hret, hlk, hml, hown, hwm, -⟩ := id C
  have hd := (hok.get hi).1
  subst hn
  rw [Nat.add_sub_cancel_left] at hd
  exact lv_iconst ha hb hd hv (kk p e R s m args below meth c H locs ls C hx hH hL)
theorem x_iconstN {b : Nat} (hi : tget (yT y) pc = some (.iconst (b : Int), n, t)) (hn : pc + 1 = n)  (kk : Fr G y d kf Z k n lv (.int (nI b) :: st) M) : Fr G y d kf Z k pc lv (st) M := by
  intro p e R s m args below meth c H locs ls C hx hH hL
  obtain ⟨hg, hok, ha, hb, hret, hlk, hml, hown, hwm, -⟩ := id C
  have hd := (hok.get hi).1
  subst hn
  rw [Nat.add_sub_cancel_left] at hd
  exact lv_iconst (v := nI b) ha hb hd rfl (kk p e R s m args below meth c H locs ls C hx hH hL)
theorem x_bipush {b : Int} {v : Int32} (hi : tget (yT y) pc = some (.bipush b, n, t)) (hn : pc + 2 = n) (hv : (Int8.ofInt b).toInt32 = v) (kk : Fr G y d kf Z k n lv (.int v :: st) M) : Fr G y d kf Z k pc lv (st) M := by
  intro p e R s m args below meth c H locs ls C hx hH hL
  obtain ⟨hg, hok, ha, hb, hret, hlk, hml, hown, hwm, -⟩ := id C
  have hd := (hok.get hi).1
  subst hn
  rw [Nat.add_sub_cancel_left] at hd
  exact lv_bipush ha hb hd hv (kk p e R s m args below meth c H locs ls C hx hH hL)
theorem x_sipush {b : Int} {v : Int32} (hi : tget (yT y) pc = some (.sipush b, n, t)) (hn : pc + 3 = n) (hv : (Int16.ofInt b).toInt32 = v) (kk : Fr G y d kf Z k n lv (.int v :: st) M) : Fr G y d kf Z k pc lv (st) M := by
  intro p e R s m args below meth c H locs ls C hx hH hL
  obtain ⟨hg, hok, ha, hb, hret, hlk, hml, hown, hwm, -⟩ := id C
  have hd := (hok.get hi).1
  subst hn
  rw [Nat.add_sub_cancel_left] at hd
  exact lv_sipush ha hb hd hv (kk p e R s m args below meth c H locs ls C hx hH hL)
theorem x_lconst {b : Fin 2} {v : Int64} (hi : tget (yT y) pc = some (.lconst b, n, t)) (hn : pc + 1 = n) (hv : Int64.ofNat (b : Nat) = v) (kk : Fr G y d kf Z k n lv (.long v :: st) M) : Fr G y d kf Z k pc lv (st) M := by
  intro p e R s m args below meth c H locs ls C hx hH hL
  obtain ⟨hg, hok, ha, hb, hret, hlk, hml, hown, hwm, -⟩ := id C
  have hd := (hok.get hi).1
  subst hn
  rw [Nat.add_sub_cancel_left] at hd
  exact lv_lconst ha hb hd hv (kk p e R s m args below meth c H locs ls C hx hH hL)
theorem x_ldc {b : Nat} {v : Int32} (hi : tget (yT y) pc = some (.ldc b, n, t)) (hn : pc + 2 = n) (hw : Cond.constant (cnm (yC y)) b v ∈ lw_tbl) (kk : Fr G y d kf Z k n lv (.int v :: st) M) : Fr G y d kf Z k pc lv (st) M := by
  intro p e R s m args below meth c H locs ls C hx hH hL
  obtain ⟨hg, hok, ha, hb, hret, hlk, hml, hown, hwm, -⟩ := id C
  have hd := (hok.get hi).1
  subst hn
  rw [Nat.add_sub_cancel_left] at hd
  exact lv_ldc ha hb hown (hg.1 _ hw rfl args s hwm) hd (kk p e R s m args below meth c H locs ls C hx hH hL)
theorem x_ldcw {b : Nat} {v : Int32} (hi : tget (yT y) pc = some (.ldc_w b, n, t)) (hn : pc + 3 = n) (hw : Cond.constant (cnm (yC y)) b v ∈ lw_tbl) (kk : Fr G y d kf Z k n lv (.int v :: st) M) : Fr G y d kf Z k pc lv (st) M := by
  intro p e R s m args below meth c H locs ls C hx hH hL
  obtain ⟨hg, hok, ha, hb, hret, hlk, hml, hown, hwm, -⟩ := id C
  have hd := (hok.get hi).1
  subst hn
  rw [Nat.add_sub_cancel_left] at hd
  exact lv_ldcw ha hb hown (hg.1 _ hw rfl args s hwm) hd (kk p e R s m args below meth c H locs ls C hx hH hL)
theorem x_ldc2 {b : Nat} {v : Int64} (hi : tget (yT y) pc = some (.ldc2_w b, n, t)) (hn : pc + 3 = n) (hw : Cond.constantLong (cnm (yC y)) b v ∈ lw_tbl) (kk : Fr G y d kf Z k n lv (.long v :: st) M) : Fr G y d kf Z k pc lv (st) M := by
  intro p e R s m args below meth c H locs ls C hx hH hL
  obtain ⟨hg, hok, ha, hb, hret, hlk, hml, hown, hwm, -⟩ := id C
  have hd := (hok.get hi).1
  subst hn
  rw [Nat.add_sub_cancel_left] at hd
  exact lv_ldc2 ha hb hown (hg.1 _ hw rfl args s hwm) hd (kk p e R s m args below meth c H locs ls C hx hH hL)
theorem x_iadd {x z : Int32} (hi : tget (yT y) pc = some (.iadd, n, t)) (hn : pc + 1 = n)  (kk : Fr G y d kf Z k n lv (.int (x + z) :: st) M) : Fr G y d kf Z k pc lv (.int z :: .int x :: st) M := by
  intro p e R s m args below meth c H locs ls C hx hH hL
  obtain ⟨hg, hok, ha, hb, hret, hlk, hml, hown, hwm, -⟩ := id C
  have hd := (hok.get hi).1
  subst hn
  rw [Nat.add_sub_cancel_left] at hd
  exact lv_iadd ha hb hd (kk p e R s m args below meth c H locs ls C hx hH hL)
theorem x_isub {x z : Int32} (hi : tget (yT y) pc = some (.isub, n, t)) (hn : pc + 1 = n)  (kk : Fr G y d kf Z k n lv (.int (x - z) :: st) M) : Fr G y d kf Z k pc lv (.int z :: .int x :: st) M := by
  intro p e R s m args below meth c H locs ls C hx hH hL
  obtain ⟨hg, hok, ha, hb, hret, hlk, hml, hown, hwm, -⟩ := id C
  have hd := (hok.get hi).1
  subst hn
  rw [Nat.add_sub_cancel_left] at hd
  exact lv_isub ha hb hd (kk p e R s m args below meth c H locs ls C hx hH hL)
theorem x_imul {x z : Int32} (hi : tget (yT y) pc = some (.imul, n, t)) (hn : pc + 1 = n)  (kk : Fr G y d kf Z k n lv (.int (x * z) :: st) M) : Fr G y d kf Z k pc lv (.int z :: .int x :: st) M := by
  intro p e R s m args below meth c H locs ls C hx hH hL
  obtain ⟨hg, hok, ha, hb, hret, hlk, hml, hown, hwm, -⟩ := id C
  have hd := (hok.get hi).1
  subst hn
  rw [Nat.add_sub_cancel_left] at hd
  exact lv_imul ha hb hd (kk p e R s m args below meth c H locs ls C hx hH hL)
theorem x_iand {x z : Int32} (hi : tget (yT y) pc = some (.iand, n, t)) (hn : pc + 1 = n)  (kk : Fr G y d kf Z k n lv (.int (x &&& z) :: st) M) : Fr G y d kf Z k pc lv (.int z :: .int x :: st) M := by
  intro p e R s m args below meth c H locs ls C hx hH hL
  obtain ⟨hg, hok, ha, hb, hret, hlk, hml, hown, hwm, -⟩ := id C
  have hd := (hok.get hi).1
  subst hn
  rw [Nat.add_sub_cancel_left] at hd
  exact lv_iand ha hb hd (kk p e R s m args below meth c H locs ls C hx hH hL)
theorem x_ior {x z : Int32} (hi : tget (yT y) pc = some (.ior, n, t)) (hn : pc + 1 = n)  (kk : Fr G y d kf Z k n lv (.int (x ||| z) :: st) M) : Fr G y d kf Z k pc lv (.int z :: .int x :: st) M := by
  intro p e R s m args below meth c H locs ls C hx hH hL
  obtain ⟨hg, hok, ha, hb, hret, hlk, hml, hown, hwm, -⟩ := id C
  have hd := (hok.get hi).1
  subst hn
  rw [Nat.add_sub_cancel_left] at hd
  exact lv_ior ha hb hd (kk p e R s m args below meth c H locs ls C hx hH hL)
theorem x_ishl {x z : Int32} (hi : tget (yT y) pc = some (.ishl, n, t)) (hn : pc + 1 = n)  (kk : Fr G y d kf Z k n lv (.int (x <<< (z &&& 31)) :: st) M) : Fr G y d kf Z k pc lv (.int z :: .int x :: st) M := by
  intro p e R s m args below meth c H locs ls C hx hH hL
  obtain ⟨hg, hok, ha, hb, hret, hlk, hml, hown, hwm, -⟩ := id C
  have hd := (hok.get hi).1
  subst hn
  rw [Nat.add_sub_cancel_left] at hd
  exact lv_ishl ha hb hd (kk p e R s m args below meth c H locs ls C hx hH hL)
theorem x_ishr {x z : Int32} (hi : tget (yT y) pc = some (.ishr, n, t)) (hn : pc + 1 = n)  (kk : Fr G y d kf Z k n lv (.int (x >>> (z &&& 31)) :: st) M) : Fr G y d kf Z k pc lv (.int z :: .int x :: st) M := by
  intro p e R s m args below meth c H locs ls C hx hH hL
  obtain ⟨hg, hok, ha, hb, hret, hlk, hml, hown, hwm, -⟩ := id C
  have hd := (hok.get hi).1
  subst hn
  rw [Nat.add_sub_cancel_left] at hd
  exact lv_ishr ha hb hd (kk p e R s m args below meth c H locs ls C hx hH hL)
theorem x_idiv {x z : Int32} (hi : tget (yT y) pc = some (.idiv, n, t)) (hn : pc + 1 = n) (hz : ¬ z = 0) (kk : Fr G y d kf Z k n lv (.int (x / z) :: st) M) : Fr G y d kf Z k pc lv (.int z :: .int x :: st) M := by
  intro p e R s m args below meth c H locs ls C hx hH hL
  obtain ⟨hg, hok, ha, hb, hret, hlk, hml, hown, hwm, -⟩ := id C
  have hd := (hok.get hi).1
  subst hn
  rw [Nat.add_sub_cancel_left] at hd
  exact lv_idiv ha hb hd hz (kk p e R s m args below meth c H locs ls C hx hH hL)
theorem x_irem {x z : Int32} (hi : tget (yT y) pc = some (.irem, n, t)) (hn : pc + 1 = n) (hz : ¬ z = 0) (kk : Fr G y d kf Z k n lv (.int (x - x / z * z) :: st) M) : Fr G y d kf Z k pc lv (.int z :: .int x :: st) M := by
  intro p e R s m args below meth c H locs ls C hx hH hL
  obtain ⟨hg, hok, ha, hb, hret, hlk, hml, hown, hwm, -⟩ := id C
  have hd := (hok.get hi).1
  subst hn
  rw [Nat.add_sub_cancel_left] at hd
  exact lv_irem ha hb hd hz (kk p e R s m args below meth c H locs ls C hx hH hL)
theorem x_ladd {x z : Int64} (hi : tget (yT y) pc = some (.ladd, n, t)) (hn : pc + 1 = n)  (kk : Fr G y d kf Z k n lv (.long (x + z) :: st) M) : Fr G y d kf Z k pc lv (.long z :: .long x :: st) M := by
  intro p e R s m args below meth c H locs ls C hx hH hL
  obtain ⟨hg, hok, ha, hb, hret, hlk, hml, hown, hwm, -⟩ := id C
  have hd := (hok.get hi).1
  subst hn
  rw [Nat.add_sub_cancel_left] at hd
  exact lv_ladd ha hb hd (kk p e R s m args below meth c H locs ls C hx hH hL)
theorem x_lmul {x z : Int64} (hi : tget (yT y) pc = some (.lmul, n, t)) (hn : pc + 1 = n)  (kk : Fr G y d kf Z k n lv (.long (x * z) :: st) M) : Fr G y d kf Z k pc lv (.long z :: .long x :: st) M := by
  intro p e R s m args below meth c H locs ls C hx hH hL
  obtain ⟨hg, hok, ha, hb, hret, hlk, hml, hown, hwm, -⟩ := id C
  have hd := (hok.get hi).1
  subst hn
  rw [Nat.add_sub_cancel_left] at hd
  exact lv_lmul ha hb hd (kk p e R s m args below meth c H locs ls C hx hH hL)
theorem x_land {x z : Int64} (hi : tget (yT y) pc = some (.land, n, t)) (hn : pc + 1 = n)  (kk : Fr G y d kf Z k n lv (.long (x &&& z) :: st) M) : Fr G y d kf Z k pc lv (.long z :: .long x :: st) M := by
  intro p e R s m args below meth c H locs ls C hx hH hL
  obtain ⟨hg, hok, ha, hb, hret, hlk, hml, hown, hwm, -⟩ := id C
  have hd := (hok.get hi).1
  subst hn
  rw [Nat.add_sub_cancel_left] at hd
  exact lv_land ha hb hd (kk p e R s m args below meth c H locs ls C hx hH hL)
theorem x_lor {x z : Int64} (hi : tget (yT y) pc = some (.lor, n, t)) (hn : pc + 1 = n)  (kk : Fr G y d kf Z k n lv (.long (x ||| z) :: st) M) : Fr G y d kf Z k pc lv (.long z :: .long x :: st) M := by
  intro p e R s m args below meth c H locs ls C hx hH hL
  obtain ⟨hg, hok, ha, hb, hret, hlk, hml, hown, hwm, -⟩ := id C
  have hd := (hok.get hi).1
  subst hn
  rw [Nat.add_sub_cancel_left] at hd
  exact lv_lor ha hb hd (kk p e R s m args below meth c H locs ls C hx hH hL)
theorem x_lshl {x : Int64} {z : Int32} (hi : tget (yT y) pc = some (.lshl, n, t)) (hn : pc + 1 = n)  (kk : Fr G y d kf Z k n lv (.long (x <<< (z.toInt64 &&& 63)) :: st) M) : Fr G y d kf Z k pc lv (.int z :: .long x :: st) M := by
  intro p e R s m args below meth c H locs ls C hx hH hL
  obtain ⟨hg, hok, ha, hb, hret, hlk, hml, hown, hwm, -⟩ := id C
  have hd := (hok.get hi).1
  subst hn
  rw [Nat.add_sub_cancel_left] at hd
  exact lv_lshl ha hb hd rfl (kk p e R s m args below meth c H locs ls C hx hH hL)
theorem x_lshr {x : Int64} {z : Int32} (hi : tget (yT y) pc = some (.lshr, n, t)) (hn : pc + 1 = n)  (kk : Fr G y d kf Z k n lv (.long (x >>> (z.toInt64 &&& 63)) :: st) M) : Fr G y d kf Z k pc lv (.int z :: .long x :: st) M := by
  intro p e R s m args below meth c H locs ls C hx hH hL
  obtain ⟨hg, hok, ha, hb, hret, hlk, hml, hown, hwm, -⟩ := id C
  have hd := (hok.get hi).1
  subst hn
  rw [Nat.add_sub_cancel_left] at hd
  exact lv_lshr ha hb hd rfl (kk p e R s m args below meth c H locs ls C hx hH hL)
theorem x_lushr {x : Int64} {z : Int32} (hi : tget (yT y) pc = some (.lushr, n, t)) (hn : pc + 1 = n)  (kk : Fr G y d kf Z k n lv (.long ((x.toUInt64 >>> (z.toInt64.toUInt64 &&& Int64.toUInt64 63)).toInt64) :: st) M) : Fr G y d kf Z k pc lv (.int z :: .long x :: st) M := by
  intro p e R s m args below meth c H locs ls C hx hH hL
  obtain ⟨hg, hok, ha, hb, hret, hlk, hml, hown, hwm, -⟩ := id C
  have hd := (hok.get hi).1
  subst hn
  rw [Nat.add_sub_cancel_left] at hd
  exact lv_lushr ha hb hd rfl (kk p e R s m args below meth c H locs ls C hx hH hL)
theorem x_i2l {x : Int32} (hi : tget (yT y) pc = some (.i2l, n, t)) (hn : pc + 1 = n)  (kk : Fr G y d kf Z k n lv (.long x.toInt64 :: st) M) : Fr G y d kf Z k pc lv (.int x :: st) M := by
  intro p e R s m args below meth c H locs ls C hx hH hL
  obtain ⟨hg, hok, ha, hb, hret, hlk, hml, hown, hwm, -⟩ := id C
  have hd := (hok.get hi).1
  subst hn
  rw [Nat.add_sub_cancel_left] at hd
  exact lv_i2l ha hb hd rfl (kk p e R s m args below meth c H locs ls C hx hH hL)
theorem x_l2i {x : Int64} (hi : tget (yT y) pc = some (.l2i, n, t)) (hn : pc + 1 = n)  (kk : Fr G y d kf Z k n lv (.int x.toInt32 :: st) M) : Fr G y d kf Z k pc lv (.long x :: st) M := by
  intro p e R s m args below meth c H locs ls C hx hH hL
  obtain ⟨hg, hok, ha, hb, hret, hlk, hml, hown, hwm, -⟩ := id C
  have hd := (hok.get hi).1
  subst hn
  rw [Nat.add_sub_cancel_left] at hd
  exact lv_l2i ha hb hd rfl (kk p e R s m args below meth c H locs ls C hx hH hL)
theorem x_dup {v : Value} (hi : tget (yT y) pc = some (.dup, n, t)) (hn : pc + 1 = n) (hv : v.category = 1) (kk : Fr G y d kf Z k n lv (v :: v :: st) M) : Fr G y d kf Z k pc lv (v :: st) M := by
  intro p e R s m args below meth c H locs ls C hx hH hL
  obtain ⟨hg, hok, ha, hb, hret, hlk, hml, hown, hwm, -⟩ := id C
  have hd := (hok.get hi).1
  subst hn
  rw [Nat.add_sub_cancel_left] at hd
  exact lv_dup ha hb hd hv (kk p e R s m args below meth c H locs ls C hx hH hL)
theorem x_dup2 {v w : Value} (hi : tget (yT y) pc = some (.dup2, n, t)) (hn : pc + 1 = n) (hv : v.category = 1) (hw : w.category = 1) (kk : Fr G y d kf Z k n lv (v :: w :: v :: w :: st) M) : Fr G y d kf Z k pc lv (v :: w :: st) M := by
  intro p e R s m args below meth c H locs ls C hx hH hL
  obtain ⟨hg, hok, ha, hb, hret, hlk, hml, hown, hwm, -⟩ := id C
  have hd := (hok.get hi).1
  subst hn
  rw [Nat.add_sub_cancel_left] at hd
  exact lv_dup2_11 ha hb hd hv hw (kk p e R s m args below meth c H locs ls C hx hH hL)
theorem x_iaddN {a b : Nat} (hi : tget (yT y) pc = some (.iadd, n, t)) (hn : pc + 1 = n) (kk : Fr G y d kf Z k n lv (.int (nI (a + b)) :: st) M) : Fr G y d kf Z k pc lv (.int (nI b) :: .int (nI a) :: st) M := x_iadd hi hn (by rw [nI_add]; exact kk)
theorem x_imulN {a b : Nat} (hi : tget (yT y) pc = some (.imul, n, t)) (hn : pc + 1 = n) (kk : Fr G y d kf Z k n lv (.int (nI (a * b)) :: st) M) : Fr G y d kf Z k pc lv (.int (nI b) :: .int (nI a) :: st) M := x_imul hi hn (by rw [pk_mul]; exact kk)
theorem x_isubN {a b : Nat} (h : b ≤ a) (hi : tget (yT y) pc = some (.isub, n, t)) (hn : pc + 1 = n) (kk : Fr G y d kf Z k n lv (.int (nI (a - b)) :: st) M) : Fr G y d kf Z k pc lv (.int (nI b) :: .int (nI a) :: st) M := x_isub hi hn (by rw [pk_sub h]; exact kk)
theorem x_idivN {a b : Nat} (ha : a < 2 ^ 31) (h0 : 0 < b) (hb : b < 2 ^ 31) (hi : tget (yT y) pc = some (.idiv, n, t)) (hn : pc + 1 = n) (kk : Fr G y d kf Z k n lv (.int (nI (a / b)) :: st) M) : Fr G y d kf Z k pc lv (.int (nI b) :: .int (nI a) :: st) M := x_idiv hi hn (nI_ne0 h0 hb) (by rw [pk_div ha h0 hb]; exact kk)
theorem x_iremN {a b : Nat} (ha : a < 2 ^ 31) (h0 : 0 < b) (hb : b < 2 ^ 31) (hi : tget (yT y) pc = some (.irem, n, t)) (hn : pc + 1 = n) (kk : Fr G y d kf Z k n lv (.int (nI (a % b)) :: st) M) : Fr G y d kf Z k pc lv (.int (nI b) :: .int (nI a) :: st) M := x_irem hi hn (nI_ne0 h0 hb) (by rw [pk_rem ha h0 hb]; exact kk)
theorem x_i2lN {a : Nat} (h : a < 2 ^ 31) (hi : tget (yT y) pc = some (.i2l, n, t)) (hn : pc + 1 = n) (kk : Fr G y d kf Z k n lv (.long (lN a) :: st) M) : Fr G y d kf Z k pc lv (.int (nI a) :: st) M := x_i2l hi hn (by rw [nI_l h]; exact kk)
theorem x_goto {o : Int} (hi : tget (yT y) pc = some (.goto o, n, t)) (hn : pc + 3 = n) (kk : Fr G y d kf Z k t lv st M) : Fr G y d kf Z k pc lv st M := by
  intro p e R s m args below meth c H locs ls C hx hH hL
  obtain ⟨hg, hok, ha, hb, hret, hlk, hml, hown, hwm, -⟩ := id C
  obtain ⟨hd, -, ht⟩ := hok.get hi
  subst hn
  rw [Nat.add_sub_cancel_left] at hd
  exact lv_goto ha hb hd (ht _ rfl) (kk p e R s m args below meth c H locs ls C hx hH hL)
theorem x_if_eq {x : Int32} {o : Int} (hi : tget (yT y) pc = some (.ifCond .eq o, n, t)) (hn : pc + 3 = n) (kt : x = 0 → Fr G y d kf Z k t lv st M) (ke : ¬ x = 0 → Fr G y d kf Z k n lv st M) : Fr G y d kf Z k pc lv (.int x :: st) M := by
  intro p e R s m args below meth c H locs ls C hx hH hL
  obtain ⟨hg, hok, ha, hb, hret, hlk, hml, hown, hwm, -⟩ := id C
  obtain ⟨hd, -, ht⟩ := hok.get hi
  subst hn
  rw [Nat.add_sub_cancel_left] at hd
  exact lv_if_eq ha hb hd (ht _ rfl) (fun h => kt h p e R s m args below meth c H locs ls C hx hH hL) (fun h => ke h p e R s m args below meth c H locs ls C hx hH hL)
theorem x_icmp_eq {x z : Int32} {o : Int} (hi : tget (yT y) pc = some (.if_icmp .eq o, n, t)) (hn : pc + 3 = n) (kt : x = z → Fr G y d kf Z k t lv st M) (ke : ¬ x = z → Fr G y d kf Z k n lv st M) : Fr G y d kf Z k pc lv (.int z :: .int x :: st) M := by
  intro p e R s m args below meth c H locs ls C hx hH hL
  obtain ⟨hg, hok, ha, hb, hret, hlk, hml, hown, hwm, -⟩ := id C
  obtain ⟨hd, -, ht⟩ := hok.get hi
  subst hn
  rw [Nat.add_sub_cancel_left] at hd
  exact lv_icmp_eq ha hb hd (ht _ rfl) (fun h => kt h p e R s m args below meth c H locs ls C hx hH hL) (fun h => ke h p e R s m args below meth c H locs ls C hx hH hL)
theorem x_if_ne {x : Int32} {o : Int} (hi : tget (yT y) pc = some (.ifCond .ne o, n, t)) (hn : pc + 3 = n) (kt : ¬ x = 0 → Fr G y d kf Z k t lv st M) (ke : x = 0 → Fr G y d kf Z k n lv st M) : Fr G y d kf Z k pc lv (.int x :: st) M := by
  intro p e R s m args below meth c H locs ls C hx hH hL
  obtain ⟨hg, hok, ha, hb, hret, hlk, hml, hown, hwm, -⟩ := id C
  obtain ⟨hd, -, ht⟩ := hok.get hi
  subst hn
  rw [Nat.add_sub_cancel_left] at hd
  exact lv_if_ne ha hb hd (ht _ rfl) (fun h => kt h p e R s m args below meth c H locs ls C hx hH hL) (fun h => ke h p e R s m args below meth c H locs ls C hx hH hL)
theorem x_icmp_ne {x z : Int32} {o : Int} (hi : tget (yT y) pc = some (.if_icmp .ne o, n, t)) (hn : pc + 3 = n) (kt : ¬ x = z → Fr G y d kf Z k t lv st M) (ke : x = z → Fr G y d kf Z k n lv st M) : Fr G y d kf Z k pc lv (.int z :: .int x :: st) M := by
  intro p e R s m args below meth c H locs ls C hx hH hL
  obtain ⟨hg, hok, ha, hb, hret, hlk, hml, hown, hwm, -⟩ := id C
  obtain ⟨hd, -, ht⟩ := hok.get hi
  subst hn
  rw [Nat.add_sub_cancel_left] at hd
  exact lv_icmp_ne ha hb hd (ht _ rfl) (fun h => kt h p e R s m args below meth c H locs ls C hx hH hL) (fun h => ke h p e R s m args below meth c H locs ls C hx hH hL)
theorem x_if_lt {x : Int32} {o : Int} (hi : tget (yT y) pc = some (.ifCond .lt o, n, t)) (hn : pc + 3 = n) (kt : x < 0 → Fr G y d kf Z k t lv st M) (ke : ¬ x < 0 → Fr G y d kf Z k n lv st M) : Fr G y d kf Z k pc lv (.int x :: st) M := by
  intro p e R s m args below meth c H locs ls C hx hH hL
  obtain ⟨hg, hok, ha, hb, hret, hlk, hml, hown, hwm, -⟩ := id C
  obtain ⟨hd, -, ht⟩ := hok.get hi
  subst hn
  rw [Nat.add_sub_cancel_left] at hd
  exact lv_if_lt ha hb hd (ht _ rfl) (fun h => kt h p e R s m args below meth c H locs ls C hx hH hL) (fun h => ke h p e R s m args below meth c H locs ls C hx hH hL)
theorem x_icmp_lt {x z : Int32} {o : Int} (hi : tget (yT y) pc = some (.if_icmp .lt o, n, t)) (hn : pc + 3 = n) (kt : x < z → Fr G y d kf Z k t lv st M) (ke : ¬ x < z → Fr G y d kf Z k n lv st M) : Fr G y d kf Z k pc lv (.int z :: .int x :: st) M := by
  intro p e R s m args below meth c H locs ls C hx hH hL
  obtain ⟨hg, hok, ha, hb, hret, hlk, hml, hown, hwm, -⟩ := id C
  obtain ⟨hd, -, ht⟩ := hok.get hi
  subst hn
  rw [Nat.add_sub_cancel_left] at hd
  exact lv_icmp_lt ha hb hd (ht _ rfl) (fun h => kt h p e R s m args below meth c H locs ls C hx hH hL) (fun h => ke h p e R s m args below meth c H locs ls C hx hH hL)
theorem x_if_ge {x : Int32} {o : Int} (hi : tget (yT y) pc = some (.ifCond .ge o, n, t)) (hn : pc + 3 = n) (kt : 0 ≤ x → Fr G y d kf Z k t lv st M) (ke : ¬ 0 ≤ x → Fr G y d kf Z k n lv st M) : Fr G y d kf Z k pc lv (.int x :: st) M := by
  intro p e R s m args below meth c H locs ls C hx hH hL
  obtain ⟨hg, hok, ha, hb, hret, hlk, hml, hown, hwm, -⟩ := id C
  obtain ⟨hd, -, ht⟩ := hok.get hi
  subst hn
  rw [Nat.add_sub_cancel_left] at hd
  exact lv_if_ge ha hb hd (ht _ rfl) (fun h => kt h p e R s m args below meth c H locs ls C hx hH hL) (fun h => ke h p e R s m args below meth c H locs ls C hx hH hL)
theorem x_icmp_ge {x z : Int32} {o : Int} (hi : tget (yT y) pc = some (.if_icmp .ge o, n, t)) (hn : pc + 3 = n) (kt : z ≤ x → Fr G y d kf Z k t lv st M) (ke : ¬ z ≤ x → Fr G y d kf Z k n lv st M) : Fr G y d kf Z k pc lv (.int z :: .int x :: st) M := by
  intro p e R s m args below meth c H locs ls C hx hH hL
  obtain ⟨hg, hok, ha, hb, hret, hlk, hml, hown, hwm, -⟩ := id C
  obtain ⟨hd, -, ht⟩ := hok.get hi
  subst hn
  rw [Nat.add_sub_cancel_left] at hd
  exact lv_icmp_ge ha hb hd (ht _ rfl) (fun h => kt h p e R s m args below meth c H locs ls C hx hH hL) (fun h => ke h p e R s m args below meth c H locs ls C hx hH hL)
theorem x_if_gt {x : Int32} {o : Int} (hi : tget (yT y) pc = some (.ifCond .gt o, n, t)) (hn : pc + 3 = n) (kt : 0 < x → Fr G y d kf Z k t lv st M) (ke : ¬ 0 < x → Fr G y d kf Z k n lv st M) : Fr G y d kf Z k pc lv (.int x :: st) M := by
  intro p e R s m args below meth c H locs ls C hx hH hL
  obtain ⟨hg, hok, ha, hb, hret, hlk, hml, hown, hwm, -⟩ := id C
  obtain ⟨hd, -, ht⟩ := hok.get hi
  subst hn
  rw [Nat.add_sub_cancel_left] at hd
  exact lv_if_gt ha hb hd (ht _ rfl) (fun h => kt h p e R s m args below meth c H locs ls C hx hH hL) (fun h => ke h p e R s m args below meth c H locs ls C hx hH hL)
theorem x_icmp_gt {x z : Int32} {o : Int} (hi : tget (yT y) pc = some (.if_icmp .gt o, n, t)) (hn : pc + 3 = n) (kt : z < x → Fr G y d kf Z k t lv st M) (ke : ¬ z < x → Fr G y d kf Z k n lv st M) : Fr G y d kf Z k pc lv (.int z :: .int x :: st) M := by
  intro p e R s m args below meth c H locs ls C hx hH hL
  obtain ⟨hg, hok, ha, hb, hret, hlk, hml, hown, hwm, -⟩ := id C
  obtain ⟨hd, -, ht⟩ := hok.get hi
  subst hn
  rw [Nat.add_sub_cancel_left] at hd
  exact lv_icmp_gt ha hb hd (ht _ rfl) (fun h => kt h p e R s m args below meth c H locs ls C hx hH hL) (fun h => ke h p e R s m args below meth c H locs ls C hx hH hL)
theorem x_if_le {x : Int32} {o : Int} (hi : tget (yT y) pc = some (.ifCond .le o, n, t)) (hn : pc + 3 = n) (kt : x ≤ 0 → Fr G y d kf Z k t lv st M) (ke : ¬ x ≤ 0 → Fr G y d kf Z k n lv st M) : Fr G y d kf Z k pc lv (.int x :: st) M := by
  intro p e R s m args below meth c H locs ls C hx hH hL
  obtain ⟨hg, hok, ha, hb, hret, hlk, hml, hown, hwm, -⟩ := id C
  obtain ⟨hd, -, ht⟩ := hok.get hi
  subst hn
  rw [Nat.add_sub_cancel_left] at hd
  exact lv_if_le ha hb hd (ht _ rfl) (fun h => kt h p e R s m args below meth c H locs ls C hx hH hL) (fun h => ke h p e R s m args below meth c H locs ls C hx hH hL)
theorem x_icmp_le {x z : Int32} {o : Int} (hi : tget (yT y) pc = some (.if_icmp .le o, n, t)) (hn : pc + 3 = n) (kt : x ≤ z → Fr G y d kf Z k t lv st M) (ke : ¬ x ≤ z → Fr G y d kf Z k n lv st M) : Fr G y d kf Z k pc lv (.int z :: .int x :: st) M := by
  intro p e R s m args below meth c H locs ls C hx hH hL
  obtain ⟨hg, hok, ha, hb, hret, hlk, hml, hown, hwm, -⟩ := id C
  obtain ⟨hd, -, ht⟩ := hok.get hi
  subst hn
  rw [Nat.add_sub_cancel_left] at hd
  exact lv_icmp_le ha hb hd (ht _ rfl) (fun h => kt h p e R s m args below meth c H locs ls C hx hH hL) (fun h => ke h p e R s m args below meth c H locs ls C hx hH hL)
theorem x_icmpN_lt {a b : Nat} (ha : a < 2 ^ 31) (hb : b < 2 ^ 31) {o : Int} (hi : tget (yT y) pc = some (.if_icmp .lt o, n, t)) (hn : pc + 3 = n) (kt : a < b → Fr G y d kf Z k t lv st M) (ke : b ≤ a → Fr G y d kf Z k n lv st M) : Fr G y d kf Z k pc lv (.int (nI b) :: .int (nI a) :: st) M :=
  x_icmp_lt hi hn (fun h => kt (by exact (nI_ltI ha hb).mp h)) (fun h => ke (by exact Nat.not_lt.mp fun q => h ((nI_ltI ha hb).mpr q)))
theorem x_icmpN_ge {a b : Nat} (ha : a < 2 ^ 31) (hb : b < 2 ^ 31) {o : Int} (hi : tget (yT y) pc = some (.if_icmp .ge o, n, t)) (hn : pc + 3 = n) (kt : b ≤ a → Fr G y d kf Z k t lv st M) (ke : a < b → Fr G y d kf Z k n lv st M) : Fr G y d kf Z k pc lv (.int (nI b) :: .int (nI a) :: st) M :=
  x_icmp_ge hi hn (fun h => kt (by exact (nI_leI hb ha).mp h)) (fun h => ke (by exact Nat.not_le.mp fun q => h ((nI_leI hb ha).mpr q)))
theorem x_icmpN_gt {a b : Nat} (ha : a < 2 ^ 31) (hb : b < 2 ^ 31) {o : Int} (hi : tget (yT y) pc = some (.if_icmp .gt o, n, t)) (hn : pc + 3 = n) (kt : b < a → Fr G y d kf Z k t lv st M) (ke : a ≤ b → Fr G y d kf Z k n lv st M) : Fr G y d kf Z k pc lv (.int (nI b) :: .int (nI a) :: st) M :=
  x_icmp_gt hi hn (fun h => kt (by exact (nI_ltI hb ha).mp h)) (fun h => ke (by exact Nat.not_lt.mp fun q => h ((nI_ltI hb ha).mpr q)))
theorem x_icmpN_le {a b : Nat} (ha : a < 2 ^ 31) (hb : b < 2 ^ 31) {o : Int} (hi : tget (yT y) pc = some (.if_icmp .le o, n, t)) (hn : pc + 3 = n) (kt : a ≤ b → Fr G y d kf Z k t lv st M) (ke : b < a → Fr G y d kf Z k n lv st M) : Fr G y d kf Z k pc lv (.int (nI b) :: .int (nI a) :: st) M :=
  x_icmp_le hi hn (fun h => kt (by exact (nI_leI ha hb).mp h)) (fun h => ke (by exact Nat.not_le.mp fun q => h ((nI_leI ha hb).mpr q)))
theorem x_icmpN_eq {a b : Nat} (ha : a < 2 ^ 31) (hb : b < 2 ^ 31) {o : Int} (hi : tget (yT y) pc = some (.if_icmp .eq o, n, t)) (hn : pc + 3 = n) (kt : a = b → Fr G y d kf Z k t lv st M) (ke : ¬ a = b → Fr G y d kf Z k n lv st M) : Fr G y d kf Z k pc lv (.int (nI b) :: .int (nI a) :: st) M :=
  x_icmp_eq hi hn (fun h => kt (by exact (nI_eq ha hb).mp h)) (fun h => ke (by exact fun q => h ((nI_eq ha hb).mpr q)))
theorem x_icmpN_ne {a b : Nat} (ha : a < 2 ^ 31) (hb : b < 2 ^ 31) {o : Int} (hi : tget (yT y) pc = some (.if_icmp .ne o, n, t)) (hn : pc + 3 = n) (kt : ¬ a = b → Fr G y d kf Z k t lv st M) (ke : a = b → Fr G y d kf Z k n lv st M) : Fr G y d kf Z k pc lv (.int (nI b) :: .int (nI a) :: st) M :=
  x_icmp_ne hi hn (fun h => kt (by exact fun q => h ((nI_eq ha hb).mpr q))) (fun h => ke (by exact (nI_eq ha hb).mp h))
theorem x_lcmp {x z : Int64} (hi : tget (yT y) pc = some (.lcmp, n, t)) (hn : pc + 1 = n)  (kk : Fr G y d kf Z k n lv (.int (lg_cmp x z) :: st) M) : Fr G y d kf Z k pc lv (.long z :: .long x :: st) M := by
  intro p e R s m args below meth c H locs ls C hx hH hL
  obtain ⟨hg, hok, ha, hb, hret, hlk, hml, hown, hwm, -⟩ := id C
  have hd := (hok.get hi).1
  subst hn
  rw [Nat.add_sub_cancel_left] at hd
  exact W.lcmp ha hb hd (kk p e R s m args below meth c H locs ls C hx hH hL)
theorem x_lc_eq {x z : Int64} {o : Int} {n2 t2 : Nat} (hi : tget (yT y) pc = some (.lcmp, n, t)) (hn : pc + 1 = n) (hi2 : tget (yT y) n = some (.ifCond .eq o, n2, t2)) (hn2 : n + 3 = n2) (kt : x = z → Fr G y d kf Z k t2 lv st M) (ke : ¬ x = z → Fr G y d kf Z k n2 lv st M) : Fr G y d kf Z k pc lv (.long z :: .long x :: st) M :=
  x_lcmp hi hn (x_if_eq hi2 hn2 (fun h => kt ((lgc_eq x z).mp h)) (fun h => ke (fun q => h ((lgc_eq x z).mpr q))))
theorem x_lc_ne {x z : Int64} {o : Int} {n2 t2 : Nat} (hi : tget (yT y) pc = some (.lcmp, n, t)) (hn : pc + 1 = n) (hi2 : tget (yT y) n = some (.ifCond .ne o, n2, t2)) (hn2 : n + 3 = n2) (kt : ¬ x = z → Fr G y d kf Z k t2 lv st M) (ke : x = z → Fr G y d kf Z k n2 lv st M) : Fr G y d kf Z k pc lv (.long z :: .long x :: st) M :=
  x_lcmp hi hn (x_if_ne hi2 hn2 (fun h => kt (fun q => h ((lgc_eq x z).mpr q))) (fun h => ke ((lgc_eq x z).mp h)))
theorem x_lc_lt {x z : Int64} {o : Int} {n2 t2 : Nat} (hi : tget (yT y) pc = some (.lcmp, n, t)) (hn : pc + 1 = n) (hi2 : tget (yT y) n = some (.ifCond .lt o, n2, t2)) (hn2 : n + 3 = n2) (kt : x < z → Fr G y d kf Z k t2 lv st M) (ke : ¬ x < z → Fr G y d kf Z k n2 lv st M) : Fr G y d kf Z k pc lv (.long z :: .long x :: st) M :=
  x_lcmp hi hn (x_if_lt hi2 hn2 (fun h => kt ((lgc_lt x z).mp h)) (fun h => ke (fun q => h ((lgc_lt x z).mpr q))))
theorem x_lc_ge {x z : Int64} {o : Int} {n2 t2 : Nat} (hi : tget (yT y) pc = some (.lcmp, n, t)) (hn : pc + 1 = n) (hi2 : tget (yT y) n = some (.ifCond .ge o, n2, t2)) (hn2 : n + 3 = n2) (kt : ¬ x < z → Fr G y d kf Z k t2 lv st M) (ke : x < z → Fr G y d kf Z k n2 lv st M) : Fr G y d kf Z k pc lv (.long z :: .long x :: st) M :=
  x_lcmp hi hn (x_if_ge hi2 hn2 (fun h => kt (fun q => Int32.not_lt.mpr h ((lgc_lt x z).mpr q))) (fun h => ke ((lgc_lt x z).mp (Int32.not_le.mp h))))
theorem x_lc_gt {x z : Int64} {o : Int} {n2 t2 : Nat} (hi : tget (yT y) pc = some (.lcmp, n, t)) (hn : pc + 1 = n) (hi2 : tget (yT y) n = some (.ifCond .gt o, n2, t2)) (hn2 : n + 3 = n2) (kt : ¬ x ≤ z → Fr G y d kf Z k t2 lv st M) (ke : x ≤ z → Fr G y d kf Z k n2 lv st M) : Fr G y d kf Z k pc lv (.long z :: .long x :: st) M :=
  x_lcmp hi hn (x_if_gt hi2 hn2 (fun h => kt (fun q => Int32.not_le.mpr h ((lgc_le x z).mpr q))) (fun h => ke ((lgc_le x z).mp (Int32.not_lt.mp h))))
theorem x_lc_le {x z : Int64} {o : Int} {n2 t2 : Nat} (hi : tget (yT y) pc = some (.lcmp, n, t)) (hn : pc + 1 = n) (hi2 : tget (yT y) n = some (.ifCond .le o, n2, t2)) (hn2 : n + 3 = n2) (kt : x ≤ z → Fr G y d kf Z k t2 lv st M) (ke : ¬ x ≤ z → Fr G y d kf Z k n2 lv st M) : Fr G y d kf Z k pc lv (.long z :: .long x :: st) M :=
  x_lcmp hi hn (x_if_le hi2 hn2 (fun h => kt ((lgc_le x z).mp h)) (fun h => ke (fun q => h ((lgc_le x z).mpr q))))
theorem x_swIn {dflt lo hi9 : Int} {offs : Array Int} {x : Int32} {off : Int} {tg : Nat} (hi : tget (yT y) pc = some (.tableswitch dflt lo hi9 offs, n, t)) (h1 : ¬ x.toInt < lo) (h2 : ¬ hi9 < x.toInt) (ho : offs[(x.toInt - lo).toNat]? = some off) (ht : (pc : Int) + off = (tg : Int)) (kk : Fr G y d kf Z k tg lv st M) : Fr G y d kf Z k pc lv (.int x :: st) M := by
  intro p e R s m args below meth c H locs ls C hx hH hL
  obtain ⟨hg, hok, ha, hb, -⟩ := id C
  exact lv_tableIn ha hb (hok.get hi).1 h1 h2 ho ht (kk p e R s m args below meth c H locs ls C hx hH hL)
theorem x_swOut {dflt lo hi9 : Int} {offs : Array Int} {x : Int32} {tg : Nat} (hi : tget (yT y) pc = some (.tableswitch dflt lo hi9 offs, n, t)) (h : x.toInt < lo ∨ hi9 < x.toInt) (ht : (pc : Int) + dflt = (tg : Int)) (kk : Fr G y d kf Z k tg lv st M) : Fr G y d kf Z k pc lv (.int x :: st) M := by
  intro p e R s m args below meth c H locs ls C hx hH hL
  obtain ⟨hg, hok, ha, hb, -⟩ := id C
  exact lv_tableOut ha hb (hok.get hi).1 h ht (kk p e R s m args below meth c H locs ls C hx hH hL)
end XR
end
section
theorem nfl_of {ci : Nat} {C : String} {T : u_T} {N : Nat} (h : vwCl[ci]? = some (C, T, N)) : nfl ci = N := by unfold nfl; rw [h]
theorem ui_same (M : Mm) (k : Ky) (j : Nat) (x : Int32) : (ui M k j x).1 k j = x := by simp [ui]
theorem ui_ne {M : Mm} {k k' : Ky} {j j' : Nat} {x : Int32} (h : k' ≠ k ∨ j' ≠ j) : (ui M k j x).1 k' j' = M.1 k' j' := by
  unfold ui
  dsimp only
  rw [if_neg]
  rintro ⟨a, b⟩
  rcases h with h | h
  · exact h a
  · exact h b
theorem ul_same (M : Mm) (k : Ky) (j : Nat) (x : Int64) : (ul M k j x).2 k j = x := by simp [ul]
theorem ul_ne {M : Mm} {k k' : Ky} {j j' : Nat} {x : Int64} (h : k' ≠ k ∨ j' ≠ j) : (ul M k j x).2 k' j' = M.2 k' j' := by
  unfold ul
  dsimp only
  rw [if_neg]
  rintro ⟨a, b⟩
  rcases h with h | h
  · exact h a
  · exact h b
/-- what a store of an int or a long does to a cell's values -/
def um (M : Mm) (k : Ky) (j : Nat) (v : Value) : Mm := match v with
  | .int x => ui M k j x
  | .long x => ul M k j x
  | _ => M
def isNum (ty : FieldType) (v : Value) : Prop := match ty, v with
  | .int, .int _ => True
  | .boolean, .int _ => True
  | .long, .long _ => True
  | _, _ => False
theorem cval_um_ne {G : Gd} {M : Mm} {k k' : Ky} {j j' : Nat} {v : Value} {ty : FieldType} (h : k' ≠ k ∨ j' ≠ j) : cval G (um M k j v) k' ty j' = cval G M k' ty j' := by
  cases v with
  | int x => cases ty <;> simp only [um, cval, ui_ne h] <;> rfl
  | long x => cases ty <;> simp only [um, cval, ul_ne h] <;> rfl
  | _ => rfl
theorem cval_um_same {G : Gd} {M : Mm} {k : Ky} {j : Nat} {v : Value} {ty : FieldType} (h : isNum ty v) : cval G (um M k j v) k ty j = v := by
  cases v with
  | int x => cases ty <;> first | exact h.elim | (simp only [um, cval, ui_same])
  | long x => cases ty <;> first | exact h.elim | (simp only [um, cval, ul_same])
  | _ => cases ty <;> exact h.elim
theorem Rep.stored {G : Gd} {M : Mm} {H H1 : Heap} (hR : Rep G M H) (hg : Gok G) {k : Ky} {sp : Nat ⊕ (Nat × Nat)} (hs : shp k.1 = some sp) (hc : k.2 < cnt k.1) {j : Nat} {v : Value}
    (hq : ∀ q : Nat, q ≠ ga G k → H1[q]? = H[q]?) (hk : cellR G (um M k j v) k sp H1) : Rep G (um M k j v) H1 := by
  intro k' sp' hs' hc'
  by_cases e : k' = k
  · subst e
    cases hs.symm.trans hs'
    exact hk
  · have h0 := hR k' sp' hs' hc'
    have hne : ga G k' ≠ ga G k := fun z => e (hg.2.2.1 k' k (by rw [hs']; rfl) hc' (by rw [hs]; rfl) hc z)
    cases sp' with
    | inl ci =>
      have h1 : t_OB (ga G k') ((gD G).1 ci) (nfl ci) ((gD G).2 ci) H (fun j' => cval G M k' (ftyp ci j') j') := h0
      show t_OB (ga G k') ((gD G).1 ci) (nfl ci) ((gD G).2 ci) H1 (fun j' => cval G (um M k j v) k' (ftyp ci j') j')
      exact (h1.kept (hq _ hne)).to fun j' _ => (cval_um_ne (Or.inl e)).symm
    | inr q =>
      have h1 : H[ga G k']? = some (arrV (gk G q.1) q.2 (fun j' => cval G M k' (aty q.1) j')) := h0
      show H1[ga G k']? = some (arrV (gk G q.1) q.2 (fun j' => cval G (um M k j v) k' (aty q.1) j'))
      rw [hq _ hne, h1]
      congr 2
      funext j'
      exact (cval_um_ne (Or.inl e)).symm
theorem HqE.stored {G : Gd} {M : Mm} {H H1 : Heap} (hR : HqE G M H) (hg : Gok G) {k : Ky} {sp : Nat ⊕ (Nat × Nat)} (hs : shp k.1 = some sp) (hc : k.2 < cnt k.1) {j : Nat} {v : Value}
    (hq : ∀ q : Nat, q ≠ ga G k → H1[q]? = H[q]?) (hz : H1.size = H.size) (hk : cellR G (um M k j v) k sp H1) : HqE G (um M k j v) H1 := by
  refine ⟨hR.1.stored hg hs hc hq hk, fun q hlt => ?_, by rw [hz]; exact hR.2.2⟩
  have hb := hg.2.2.2.1 k (by rw [hs]; rfl) hc
  rw [hq q (by omega)]
  exact hR.2.1 q hlt
theorem Hq.stored {G : Gd} {M : Mm} {s : State} {H H1 : Heap} {locs : List Loc} (hR : Hq G M s H locs) (hg : Gok G) {k : Ky} {sp : Nat ⊕ (Nat × Nat)} (hs : shp k.1 = some sp) (hc : k.2 < cnt k.1) {j i : Nat} {v : Value}
    (hq : ∀ q : Nat, q ≠ ga G k → H1[q]? = H[q]?) (hz : H1.size = H.size) (hk : cellR G (um M k j v) k sp H1) : Hq G (um M k j v) s H1 (locs ++ [⟨ga G k, i⟩]) := by
  refine ⟨hR.1.stored hg hs hc hq hz hk, by rw [hz]; exact hR.2.1, fun z hzm => ?_⟩
  rcases List.mem_append.mp hzm with h | h
  · exact hR.2.2 z h
  · rw [List.mem_singleton.mp h]
    exact hg.2.2.2.1 k (by rw [hs]; rfl) hc
theorem cells_arr {G : Gd} {M : Mm} {k : Ky} {t n j : Nat} {v : Value} {H1 : Heap} (hk : isNum (aty t) v)
    (h : H1[ga G k]? = some ((arrV (gk G t) n (fun j => cval G M k (aty t) j)).setSlot j v)) : cellR G (um M k j v) k (.inr (t, n)) H1 := by
  show H1[ga G k]? = some (arrV (gk G t) n (fun j' => cval G (um M k j v) k (aty t) j'))
  rw [h, arrV_store]
  congr 2
  funext j'
  by_cases e : j' = j
  · subst e
    simp only [updV, if_true]
    exact (cval_um_same hk).symm
  · simp only [updV, if_neg e]
    exact (cval_um_ne (Or.inr e)).symm
theorem cells_obj {G : Gd} {M : Mm} {k : Ky} {ci j : Nat} {v : Value} {H1 : Heap} {cell : Cell} (hk : isNum (ftyp ci j) v) (hap : ∀ a b, a < nfl ci → b < nfl ci → a ≠ b → (gD G).2 ci a ≠ (gD G).2 ci b) (hj : j < nfl ci)
    (hc : cell.cls = (gD G).1 ci) (hv : cell.vm = .none) (h4 : ∀ j', j' < nfl ci → cell.slots[(gD G).2 ci j']? = some (cval G M k (ftyp ci j') j'))
    (h : H1[ga G k]? = some (cell.setSlot ((gD G).2 ci j) v)) : cellR G (um M k j v) k (.inl ci) H1 := by
  show t_OB (ga G k) ((gD G).1 ci) (nfl ci) ((gD G).2 ci) H1 (fun j' => cval G (um M k j v) k (ftyp ci j') j')
  refine t_OB.to (V := updV (fun j' => cval G M k (ftyp ci j') j') j v) ⟨_, h, hc, hv, t_set h4 hap hj v⟩ fun j' _ => ?_
  by_cases e : j' = j
  · subst e
    simp only [updV, if_true]
    exact (cval_um_same hk).symm
  · simp only [updV, if_neg e]
    exact (cval_um_ne (Or.inr e)).symm
/-- what the tables say of a place where a field is named -/
def FLk (own idx ci j : Nat) : Prop := ∃ (C : String) (T : u_T) (N : Nat), vwCl[ci]? = some (C, T, N) ∧ j < N ∧ (∀ w ∈ u_ws C T N, w ∈ lw_tbl) ∧ (∀ a, a < N → ∀ b, b < N → a ≠ b → (T a).2.1 ≠ (T b).2.1) ∧ (∀ a, a < N → parseFieldDescriptor (T a).2.2.1 = some (ftyp ci a)) ∧
  (Cond.fieldLink (cnm own) idx (T j).1 (T j).2.1 (T j).2.2.1 ∈ lw_tbl ∨ ∃ ho, Cond.fieldLinkNest (cnm own) idx (T j).1 (T j).2.1 (T j).2.2.1 ho ∈ lw_tbl)
section XH
variable {G : Gd} {y : Mt} {d kf : Nat} {Z : Zt} {k pc n t : Nat} {lv lv' : List (Nat × Value)} {st : List Value} {M : Mm}
theorem u_good (C : String) (T : u_T) (N : Nat) : ∀ w ∈ u_ws C T N, okw w = true := by
  intro w hw
  obtain ⟨a, -, rfl⟩ := List.mem_map.mp hw
  unfold u_lay
  by_cases h : (T a).2.2.2 = true
  · rw [if_pos h]; rfl
  · rw [if_neg h]; rfl
theorem x_get {idx : Nat} {q : Ky} {ci j : Nat} {v : Value} (hi : tget (yT y) pc = some (.getfield idx, n, t)) (hn : pc + 3 = n) (hf : FLk (yC y) idx ci j) (hs : shp q.1 = some (.inl ci)) (hc : q.2 < cnt q.1) (hv : cval G M q (ftyp ci j) j = v)
    (kk : Fr G y d kf Z k n lv (v :: st) M) : Fr G y d kf Z k pc lv (.ref (ga G q) :: st) M := by
  intro p e R s m args below meth c H locs ls C hx hH hL
  obtain ⟨hg, hok, ha, hb, hret, hlk, hml, hown, hwm, -⟩ := id C
  have hd := (hok.get hi).1
  subst hn
  rw [Nat.add_sub_cancel_left] at hd
  obtain ⟨Cn, T, N, hcl, hj, hin, -, -, hlink⟩ := hf
  have hK : va_K (gD G) vwCl (tysG G) s := va_K.moved hwm.alike hg.2.1
  have hN := nfl_of hcl
  obtain ⟨cell, q1, q2, q3, q4⟩ : t_OB (ga G q) ((gD G).1 ci) (nfl ci) ((gD G).2 ci) H (fun j => cval G M q (ftyp ci j) j) := hH.1.1 q _ hs hc
  obtain ⟨hS, hfc, kC, hkC, hkind⟩ := hK.1 ci _ hcl
  obtain ⟨cf, kf9, fi, f, hfi, hsl⟩ := hS j hj
  have hts : ∀ w ∈ u_ws Cn T N, w.before args s = true := fun w hw => hg.1 w (hin w hw) (u_good Cn T N w hw) args s hwm
  have hst := (u_facts hfc hkC (u_lays hts (fun _ h => h) hj) hfi).1
  have hval : cell.slots[f.slot]? = some v := by
    have hsl2 : f.slot = (gD G).2 ci j := hsl
    rw [hsl2, q4 j (by rw [hN]; exact hj)]
    exact congrArg some hv
  have kk9 := kk p e R s m args below meth c H locs ls C hx hH hL
  rcases hlink with hw | ⟨ho, hw⟩
  · exact W.getf ha hb hown (hg.1 _ hw rfl args s hwm) hfi hst q1 (by rw [q3]; exact fun h => by cases h) hval rfl rfl hd kk9
  · exact va_Wgetf ha hb hown (hg.1 _ hw rfl args s hwm) hfi hst q1 (by rw [q3]; exact fun h => by cases h) hval rfl rfl hd kk9
theorem x_put {idx : Nat} {q : Ky} {ci j : Nat} {v : Value} (hi : tget (yT y) pc = some (.putfield idx, n, t)) (hn : pc + 3 = n) (hf : FLk (yC y) idx ci j) (hfin : ∀ (Cn : String) (T : u_T) (N : Nat), vwCl[ci]? = some (Cn, T, N) → (T j).2.2.2 = false) (hs : shp q.1 = some (.inl ci)) (hc : q.2 < cnt q.1)
    (hnum : isNum (ftyp ci j) v) (hnar : narrow (ftyp ci j) v = v) (hfit : fits (ftyp ci j) v = true)
    (kk : Fr G y d kf Z k n lv st (um M q j v)) : Fr G y d kf Z k pc lv (v :: .ref (ga G q) :: st) M := by
  intro p e R s m args below meth c H locs ls C hx hH hL
  obtain ⟨hg, hok, ha, hb, hret, hlk, hml, hown, hwm, -⟩ := id C
  have hd := (hok.get hi).1
  subst hn
  rw [Nat.add_sub_cancel_left] at hd
  obtain ⟨Cn, T, N, hcl, hj, hin, hnm, hty, hlink⟩ := hf
  have hfin9 := hfin Cn T N hcl
  have hK : va_K (gD G) vwCl (tysG G) s := va_K.moved hwm.alike hg.2.1
  have hN := nfl_of hcl
  obtain ⟨cell, q1, q2, q3, q4⟩ : t_OB (ga G q) ((gD G).1 ci) (nfl ci) ((gD G).2 ci) H (fun j => cval G M q (ftyp ci j) j) := hH.1.1 q _ hs hc
  obtain ⟨hS, hfc, kC, hkC, hkind⟩ := hK.1 ci _ hcl
  obtain ⟨cf, kf9, fi, f, hfi, hsl⟩ := hS j hj
  have hts : ∀ w ∈ u_ws Cn T N, w.before args s = true := fun w hw => hg.1 w (hin w hw) (u_good Cn T N w hw) args s hwm
  have hst := (u_facts hfc hkC (u_lays hts (fun _ h => h) hj) hfi).1
  have hap : ∀ a b, a < nfl ci → b < nfl ci → a ≠ b → (gD G).2 ci a ≠ (gD G).2 ci b := by
    rw [hN]
    exact va_apart (own := Cn) (ci := ci) hts (fun _ h => h) (ftyp ci) hty hnm hK hcl
  have hlay := hts _ (u_in_lay hj)
  unfold u_lay at hlay
  rw [if_neg (by rw [hfin9]; decide)] at hlay
  have h6 := u_store hfc hkC hkind hlay hfi (hty j hj) hnar hfit
  have hsl2 : f.slot = (gD G).2 ci j := hsl
  have hin9 : f.slot < cell.slots.size := by rw [hsl2]; exact k2_hasslot (q4 j (by rw [hN]; exact hj))
  have fin : ∀ (H1 : Heap), H1[ga G q]? = some (cell.setSlot f.slot v) → H1.size = H.size → (∀ z : Nat, z ≠ ga G q → H1[z]? = H[z]?) → W p (gl G) e R s m args below meth c H1 (locs ++ [⟨ga G q, f.slot⟩]) k (6 * k) (Z below args s) (F0 m (pc + 3) ls st) := by
    intro H1 e1 e2 e3
    rw [hsl2] at e1
    exact kk p e R s m args below meth c H1 _ ls C hx (hH.stored hg hs hc e3 e2 (cells_obj hnum hap (by rw [hN]; exact hj) q2 q3 q4 e1)) hL
  rcases hlink with hw | ⟨ho, hw⟩
  · exact W.putK ha hb (f := f) ⟨hown, hg.1 _ hw rfl args s hwm, ⟨_, _, _, hfi⟩, hst⟩ (by rw [q2]; exact h6) q1 q3 hin9 rfl rfl hd fin
  · exact va_WputK ha hb hown (hg.1 _ hw rfl args s hwm) hfi hst (by rw [q2]; exact h6) q1 q3 hin9 rfl rfl hd fin
theorem arrOk {t : Nat} (ht : t < 5) {s : State} (hg : Gok G) (hwm : (gs G).WarmedH s.vm) : ArrOfT s (gk G t) (aty t) := by
  have hK : va_K (gD G) vwCl (tysG G) s := va_K.moved hwm.alike hg.2.1
  refine (hK.2 t (gk G t, aty t) ?_).1
  rcases (show t = 0 ∨ t = 1 ∨ t = 2 ∨ t = 3 ∨ t = 4 by omega) with rfl | rfl | rfl | rfl | rfl <;> rfl
theorem x_iald {q : Ky} {L a : Nat} (hi : tget (yT y) pc = some (.iaload, n, t)) (hn : pc + 1 = n) (hs : shp q.1 = some (.inr (0, L))) (hc : q.2 < cnt q.1) (hin : a < L) (hL2 : L < 2 ^ 31) (kk : Fr G y d kf Z k n lv (.int (M.1 q a) :: st) M) : Fr G y d kf Z k pc lv (.int (nI a) :: .ref (ga G q) :: st) M := by
  intro p e R s m args below meth c H locs ls C hx hH hL
  obtain ⟨hg, hok, ha, hb, hret, hlk, hml, hown, hwm, -⟩ := id C
  have hd := (hok.get hi).1
  subst hn
  rw [Nat.add_sub_cancel_left] at hd
  have h1 : H[ga G q]? = some (arrV (gk G 0) L (fun j => cval G M q (aty 0) j)) := hH.1.1 q _ hs hc
  have hvi : vp_in (nI a) L := vp_in_nI hin hL2
  have hcl : (nI a).toNatClampNeg = a := nI_clamp (by omega)
  exact W.iald (v := .int (M.1 q a)) ha hb h1 (arrOk (t := 0) (by decide) hg hwm L _) (fun z => by cases z) (by rw [arrV_size]; exact hvi) (by rw [hcl, arrV_read _ _ hin]; rfl) rfl rfl hd (kk p e R s m args below meth c H locs ls C hx hH hL)
theorem x_zald {q : Ky} {L a : Nat} (hi : tget (yT y) pc = some (.baload, n, t)) (hn : pc + 1 = n) (hs : shp q.1 = some (.inr (2, L))) (hc : q.2 < cnt q.1) (hin : a < L) (hL2 : L < 2 ^ 31) (kk : Fr G y d kf Z k n lv (.int (M.1 q a) :: st) M) : Fr G y d kf Z k pc lv (.int (nI a) :: .ref (ga G q) :: st) M := by
  intro p e R s m args below meth c H locs ls C hx hH hL
  obtain ⟨hg, hok, ha, hb, hret, hlk, hml, hown, hwm, -⟩ := id C
  have hd := (hok.get hi).1
  subst hn
  rw [Nat.add_sub_cancel_left] at hd
  have h1 : H[ga G q]? = some (arrV (gk G 2) L (fun j => cval G M q (aty 2) j)) := hH.1.1 q _ hs hc
  have hvi : vp_in (nI a) L := vp_in_nI hin hL2
  have hcl : (nI a).toNatClampNeg = a := nI_clamp (by omega)
  exact W.zald (v := .int (M.1 q a)) ha hb h1 (arrOk (t := 2) (by decide) hg hwm L _) (fun z => by cases z) (by rw [arrV_size]; exact hvi) (by rw [hcl, arrV_read _ _ hin]; rfl) rfl rfl hd (kk p e R s m args below meth c H locs ls C hx hH hL)
theorem x_lald {q : Ky} {L a : Nat} (hi : tget (yT y) pc = some (.laload, n, t)) (hn : pc + 1 = n) (hs : shp q.1 = some (.inr (1, L))) (hc : q.2 < cnt q.1) (hin : a < L) (hL2 : L < 2 ^ 31) (kk : Fr G y d kf Z k n lv (.long (M.2 q a) :: st) M) : Fr G y d kf Z k pc lv (.int (nI a) :: .ref (ga G q) :: st) M := by
  intro p e R s m args below meth c H locs ls C hx hH hL
  obtain ⟨hg, hok, ha, hb, hret, hlk, hml, hown, hwm, -⟩ := id C
  have hd := (hok.get hi).1
  subst hn
  rw [Nat.add_sub_cancel_left] at hd
  have h1 : H[ga G q]? = some (arrV (gk G 1) L (fun j => cval G M q (aty 1) j)) := hH.1.1 q _ hs hc
  have hvi : vp_in (nI a) L := vp_in_nI hin hL2
  have hcl : (nI a).toNatClampNeg = a := nI_clamp (by omega)
  exact W.lald (v := .long (M.2 q a)) ha hb h1 (arrOk (t := 1) (by decide) hg hwm L _) (fun z => by cases z) (by rw [arrV_size]; exact hvi) (by rw [hcl, arrV_read _ _ hin]; rfl) rfl rfl hd (kk p e R s m args below meth c H locs ls C hx hH hL)
theorem x_aald {q q' : Ky} {tt L a : Nat} (hi : tget (yT y) pc = some (.aaload, n, t)) (hn : pc + 1 = n) (hs : shp q.1 = some (.inr (tt, L))) (htt : tt = 3 ∨ tt = 4) (hc : q.2 < cnt q.1) (hin : a < L) (hL2 : L < 2 ^ 31) (hr : rf q a = some q') (kk : Fr G y d kf Z k n lv (.ref (ga G q') :: st) M) : Fr G y d kf Z k pc lv (.int (nI a) :: .ref (ga G q) :: st) M := by
  intro p e R s m args below meth c H locs ls C hx hH hL
  obtain ⟨hg, hok, ha, hb, hret, hlk, hml, hown, hwm, -⟩ := id C
  have hd := (hok.get hi).1
  subst hn
  rw [Nat.add_sub_cancel_left] at hd
  have h1 : H[ga G q]? = some (arrV (gk G tt) L (fun j => cval G M q (aty tt) j)) := hH.1.1 q _ hs hc
  have hvi : vp_in (nI a) L := vp_in_nI hin hL2
  have hcl : (nI a).toNatClampNeg = a := nI_clamp (by omega)
  have hval : cval G M q (aty tt) a = .ref (ga G q') := by
    rcases htt with rfl | rfl <;> (show rv G (rf q a) = _; rw [hr]; rfl)
  have hre : (aty tt).isReference = true := by rcases htt with rfl | rfl <;> rfl
  exact W.aald (v := .ref (ga G q')) ha hb h1 (arrOk (t := tt) (by omega) hg hwm L _) hre (fun z => by cases z) (by rw [arrV_size]; exact hvi) (by rw [hcl, arrV_read _ _ hin, hval]) rfl rfl hd (kk p e R s m args below meth c H locs ls C hx hH hL)
theorem x_alen {q : Ky} {tt L : Nat} (hi : tget (yT y) pc = some (.arraylength, n, t)) (hn : pc + 1 = n) (hs : shp q.1 = some (.inr (tt, L))) (htt : tt < 5) (hc : q.2 < cnt q.1) (kk : Fr G y d kf Z k n lv (.int (nI L) :: st) M) : Fr G y d kf Z k pc lv (.ref (ga G q) :: st) M := by
  intro p e R s m args below meth c H locs ls C hx hH hL
  obtain ⟨hg, hok, ha, hb, hret, hlk, hml, hown, hwm, -⟩ := id C
  have hd := (hok.get hi).1
  subst hn
  rw [Nat.add_sub_cancel_left] at hd
  have h1 : H[ga G q]? = some (arrV (gk G tt) L (fun j => cval G M q (aty tt) j)) := hH.1.1 q _ hs hc
  exact W.alen (n := nI L) ha hb h1 (arrOk (t := tt) htt hg hwm L _) (by rw [arrV_size] <;> rfl) rfl rfl hd (kk p e R s m args below meth c H locs ls C hx hH hL)
theorem x_iast {q : Ky} {L a : Nat} {x : Int32} (hi : tget (yT y) pc = some (.iastore, n, t)) (hn : pc + 1 = n) (hs : shp q.1 = some (.inr (0, L))) (hc : q.2 < cnt q.1) (hin : a < L) (hL2 : L < 2 ^ 31) (kk : Fr G y d kf Z k n lv st (ui M q a x)) : Fr G y d kf Z k pc lv (.int x :: .int (nI a) :: .ref (ga G q) :: st) M := by
  intro p e R s m args below meth c H locs ls C hx hH hL
  obtain ⟨hg, hok, ha, hb, hret, hlk, hml, hown, hwm, -⟩ := id C
  have hd := (hok.get hi).1
  subst hn
  rw [Nat.add_sub_cancel_left] at hd
  have h1 : H[ga G q]? = some (arrV (gk G 0) L (fun j => cval G M q (aty 0) j)) := hH.1.1 q _ hs hc
  have hvi : vp_in (nI a) L := vp_in_nI hin hL2
  have hcl : (nI a).toNatClampNeg = a := nI_clamp (by omega)
  refine W.iast ha hb h1 (arrOk (t := 0) (by decide) hg hwm L _) (fun z => by cases z) (by rw [arrV_size]; exact hvi) rfl rfl hd fun H1 e1 e2 e3 => ?_
  rw [hcl] at e1 ⊢
  exact kk p e R s m args below meth c H1 _ ls C hx (hH.stored (v := .int x) hg hs hc e3 e2 (cells_arr (by exact trivial) e1)) hL
theorem x_last {q : Ky} {L a : Nat} {x : Int64} (hi : tget (yT y) pc = some (.lastore, n, t)) (hn : pc + 1 = n) (hs : shp q.1 = some (.inr (1, L))) (hc : q.2 < cnt q.1) (hin : a < L) (hL2 : L < 2 ^ 31) (kk : Fr G y d kf Z k n lv st (ul M q a x)) : Fr G y d kf Z k pc lv (.long x :: .int (nI a) :: .ref (ga G q) :: st) M := by
  intro p e R s m args below meth c H locs ls C hx hH hL
  obtain ⟨hg, hok, ha, hb, hret, hlk, hml, hown, hwm, -⟩ := id C
  have hd := (hok.get hi).1
  subst hn
  rw [Nat.add_sub_cancel_left] at hd
  have h1 : H[ga G q]? = some (arrV (gk G 1) L (fun j => cval G M q (aty 1) j)) := hH.1.1 q _ hs hc
  have hvi : vp_in (nI a) L := vp_in_nI hin hL2
  have hcl : (nI a).toNatClampNeg = a := nI_clamp (by omega)
  refine W.last ha hb h1 (arrOk (t := 1) (by decide) hg hwm L _) (fun z => by cases z) (by rw [arrV_size]; exact hvi) rfl rfl hd fun H1 e1 e2 e3 => ?_
  rw [hcl] at e1 ⊢
  exact kk p e R s m args below meth c H1 _ ls C hx (hH.stored (v := .long x) hg hs hc e3 e2 (cells_arr (by exact trivial) e1)) hL
end XH
end
section
/-- what the tables say where an object's method is called -/
def LkM (own idx : Nat) (y2 : Mt) (np : Nat) : Prop :=
  (Cond.methodLink (cnm own) idx (yN y2) ∈ lw_tbl ∨ ∃ ho, Cond.methodLinkNest (cnm own) idx (yN y2) ho ∈ lw_tbl) ∧ Cond.initialized (yN y2).cls ∈ lw_tbl ∧ Cond.code (yN y2) (yB y2) (yL y2) (yR y2) ∈ lw_tbl ∧
  ((yN y2).cls ≠ "java/lang/invoke/MethodHandle" ∧ (yN y2).cls ≠ "java/lang/invoke/VarHandle") ∧ (parseMethodDescriptor (yN y2).desc).map (fun d => d.parameters.length) = some np ∧ yL y2 ≤ 45
def LkV (own idx : Nat) (y2 : Mt) (np : Nat) : Prop := LkM own idx y2 np ∧ Cond.instanceMethod (yN y2) ∈ lw_tbl ∧ Cond.selects (yN y2).cls (yN y2) (yN y2) ∈ lw_tbl
def LkS (own idx : Nat) (y2 : Mt) (np : Nat) : Prop := LkM own idx y2 np ∧ Cond.static (yN y2) ∈ lw_tbl
theorem Pcc_blind (G : Gd) (av : List Value) (M : Mm) : FrameBlind (Pcc G av M) := fun _ _ _ _ h => h
section XC
variable {G : Gd} {y : Mt} {d kf : Nat} {Z : Zt} {k pc n t : Nat} {lv lv' : List (Nat × Value)} {st : List Value} {M : Mm}
theorem ct_of {av : List Value} {o : Oc} {M' : Mm} (hG : Gok G) (ok : okT y) (hp : plainName (yN y).cls = true) (hc : (yN y).cls = cnm (yC y)) (hl : (lg_sl av).length ≤ yL y)
    (body : Fr G y d kf (Zm G o M' kf) 0 0 (lv_args 0 av) [] M) : Ct G y d av M o M' kf := by
  refine vx_ofW (cc := yB y) (maxL := yL y) (ret := yR y) hp rfl ?_
  intro p e s m args below meth c s₁ B hml ht hP
  obtain ⟨rfl, hH, hW⟩ := hP
  have hown : s.vm.findClass (cnm (yC y)) = some m.cls := by rw [← hc]; exact findClass_of_methodNamed B.named
  rw [lg_entry_eq]
  exact body p e _ s m _ below meth c s.heap [] _ ⟨hG, ok, B.exec, B.bytes, B.returns, B.notSynchronized, hml, hown, hW, hH.2.1, hH.2.2, Nat.le_refl _, Nat.le_refl _, Nat.le_refl _, Nat.le_refl _⟩ ht ⟨hH, Nat.le_refl _, fun z h => by cases h⟩ (lv_entry av hl)
theorem mqw {below : List Frame} {args : Array Value} {s : State} {p : Program} {e : Env} {R : Room} {m : MethodId} {meth : Method} {c : Code} {H : Heap} {locs : List Loc} {g : JFrame} {o : Oc} (hk : k ≤ kf)
    (h : W p (gl G) e R s m args below meth c H locs kf (6 * kf) (vx_MQ below (Qcc G o M) (XCc G o M) args s kf (6 * kf) (fun q => gb G ≤ q)) g) : W p (gl G) e R s m args below meth c H locs k (6 * k) (Zm G o M kf below args s) g :=
  W.widen hk (by omega) h
theorem x_iret {v : Int32} (hi : tget (yT y) pc = some (.ireturn, n, t)) (hn : pc + 1 = n) (hr : yR y = some .int) (hk : k ≤ kf) : Fr G y d kf (Zm G (.inl (some (.int v))) M kf) k pc lv [.int v] M := by
  intro p e R s m args below meth c H locs ls C hx hH hL
  obtain ⟨hg, hok, ha, hb, hret, hlk, hml, hown, hwm, -⟩ := id C
  have hd := (hok.get hi).1
  subst hn
  rw [Nat.add_sub_cancel_left] at hd
  exact mqw hk (vx_ret (W.iret ha hb (hret.trans hr) (fun u hu hW => ⟨_, rfl, rfl, by rw [hu]; exact hH.1⟩) hH.2.2 hd hlk))
theorem x_zret {v : Int32} (hi : tget (yT y) pc = some (.ireturn, n, t)) (hn : pc + 1 = n) (hr : yR y = some .boolean) (hv : narrow .boolean (.int v) = .int v) (hk : k ≤ kf) : Fr G y d kf (Zm G (.inl (some (.int v))) M kf) k pc lv [.int v] M := by
  intro p e R s m args below meth c H locs ls C hx hH hL
  obtain ⟨hg, hok, ha, hb, hret, hlk, hml, hown, hwm, -⟩ := id C
  have hd := (hok.get hi).1
  subst hn
  rw [Nat.add_sub_cancel_left] at hd
  exact mqw hk (vx_ret (W.zret ha hb (hret.trans hr) hv (fun u hu hW => ⟨_, rfl, rfl, by rw [hu]; exact hH.1⟩) hH.2.2 hd hlk))
theorem x_lret {v : Int64} (hi : tget (yT y) pc = some (.lreturn, n, t)) (hn : pc + 1 = n) (hr : yR y = some .long) (hk : k ≤ kf) : Fr G y d kf (Zm G (.inl (some (.long v))) M kf) k pc lv [.long v] M := by
  intro p e R s m args below meth c H locs ls C hx hH hL
  obtain ⟨hg, hok, ha, hb, hret, hlk, hml, hown, hwm, -⟩ := id C
  have hd := (hok.get hi).1
  subst hn
  rw [Nat.add_sub_cancel_left] at hd
  exact mqw hk (vx_ret (W.lret ha hb (hret.trans hr) (fun u hu hW => ⟨_, rfl, rfl, by rw [hu]; exact hH.1⟩) hH.2.2 hd hlk))
theorem x_vret (hi : tget (yT y) pc = some (.return_, n, t)) (hn : pc + 1 = n) (hr : yR y = none) (hk : k ≤ kf) : Fr G y d kf (Zm G (.inl none) M kf) k pc lv [] M := by
  intro p e R s m args below meth c H locs ls C hx hH hL
  obtain ⟨hg, hok, ha, hb, hret, hlk, hml, hown, hwm, -⟩ := id C
  have hd := (hok.get hi).1
  subst hn
  rw [Nat.add_sub_cancel_left] at hd
  exact mqw hk (vx_ret (W.vret ha hb (hret.trans hr) (fun u hu hW => ⟨_, rfl, rfl, by rw [hu]; exact hH.1⟩) hH.2.2 hd hlk))
/-- the frame of the caller, behind a call -/
theorem x_back {y2 : Mt} {d2 k2 np idx : Nat} {av : List Value} {M2 : Mm} {o : Oc} {p : Program} {e : Env} {R : Room} {s : State} {m : MethodId} {args : Array Value} {below : List Frame} {meth : Method} {c : Code}
    (C : Cx G y d kf p R s m meth c) (hl : LkM (yC y) idx y2 np) (hd : d2 + 1 ≤ d) (hC : Ct G y2 d2 av M o M2 k2) :
    vx_Back (gl G) R p e below s args (yN y2) 3 8 (PreOf R k2 (6 * k2) (Pcc G av M)) (PostOf (Qcc G o M2) k2 (6 * k2) (fun q => gb G ≤ q)) (vx_Post (XCc G o M2) k2 (6 * k2) (fun q => gb G ≤ q)) := by
  obtain ⟨hg, hok, ha, hb, hret, hlk, hml, hown, hwm, hs1, hs2, hR1, hR2, hR3, hR4⟩ := id C
  obtain ⟨-, hini, hcd, -, -, hmx⟩ := hl
  refine vx_back (bytes := yB y2) (maxL := yL y2) (ret := yR y2) hC (Pcc_blind G av M) rfl rfl ?_ ?_ ?_ List.mem_cons_self ?_
  · show d2 + 1 ≤ R.frames
    omega
  · show 8 + (yL y2 + 11) + 64 * d2 ≤ R.locals
    omega
  · intro w hw a' U hWU
    rw [List.mem_singleton.mp hw]
    exact hg.1 _ hcd rfl a' U (State.WarmedH.trans hwm hWU)
  · intro a' U hWU
    exact hg.1 _ hini rfl a' U (State.WarmedH.trans hwm hWU)
theorem x_goesV {y2 : Mt} {np idx : Nat} {q : Ky} {ci : Nat} {As rest : List Value} {p : Program} {e : Env} {R : Room} {s T : State} {m : MethodId} {args : Array Value} {below : List Frame} {meth : Method} {c : Code} {H : Heap} {locs : List Loc} {ls : Array Slot}
    (C : Cx G y d kf p R s m meth c) (hl : LkV (yC y) idx y2 np) (hi : tget (yT y) pc = some (.invokevirtual idx, pc + 3, t)) (hs : shp q.1 = some (.inl ci)) {u : u_T × Nat} (hcl : vwCl[ci]? = some ((yN y2).cls, u)) (hc : q.2 < cnt q.1) (hnp : As.length = np)
    (hH : Hq G M s H locs) (hT : T.heap = H) (X : Stand p (gl G) e R s m args below meth c T locs k (6 * k)) :
    ∃ (vm₁ : Vm) (mk : MethodId), Stand p (gl G) e R s m args below meth c (T.setVm vm₁) locs k (6 * k) ∧ (T.setVm vm₁).methodNamed? (yN y2) = some mk ∧
      ∀ target, (∀ acts, Steps p.tables e below (doInvoke e ((T.setVm vm₁).setTop (F0 m pc ls rest)) acts mk (Value.ref (ga G q) :: As).toArray).1 target) → Steps p.tables e below (T.setTop (F0 m pc ls (As.reverse ++ .ref (ga G q) :: rest))) target := by
  obtain ⟨hg, hok, ha, hb, hret, hlk, hml, hown, hwm, -⟩ := id C
  obtain ⟨⟨hlink, hini, hcd, hy, hpd, -⟩, hin, hse⟩ := hl
  have hd9 := (hok.get hi).1
  rw [Nat.add_sub_cancel_left, ← hb] at hd9
  have hK : va_K (gD G) vwCl (tysG G) s := va_K.moved hwm.alike hg.2.1
  obtain ⟨cell, q1, q2, q3, -⟩ : t_OB (ga G q) ((gD G).1 ci) (nfl ci) ((gD G).2 ci) H (fun j => cval G M q (ftyp ci j) j) := hH.1.1 q _ hs hc
  have hclB : s.vm.findClass (yN y2).cls = some cell.cls := by rw [q2]; exact (hK.1 ci _ hcl).2.1
  have hinst := hg.1 _ hin rfl args s hwm
  have hsel := hg.1 _ hse rfl args s hwm
  have hcode := hg.1 _ hcd rfl args s hwm
  obtain ⟨mk, methM, hnamed, hmethM, hstM, habM⟩ := Cond.instanceMethod_spec hinst
  obtain ⟨methM', cM, hmethM', -, -, -, -, -, -, hsigM⟩ := Cond.code_spec hnamed hcode
  cases hmethM.symm.trans hmethM'
  obtain ⟨c2, r2, m2, z1, z2, z3, z4, kP, hkP, hkPi⟩ := Cond.selects_spec hsel
  cases hclB.symm.trans z1
  cases (State.methodFound?_of_named hnamed hy).symm.trans z2
  cases hnamed.symm.trans z3
  have hselP : selectMethod e.platform s.vm cell.cls mk = .method mk := by rw [Launch.admits_selectMethod X.admits]; exact z4
  have hlen : As.length = methM.sig.parameters.length := by
    rw [hsigM] at hpd
    rw [hnp]
    exact (Option.some.inj hpd).symm
  have hobj : ∀ z, cell.vm ≠ .statics z := fun z h => by rw [q3] at h; cases h
  rcases hlink with hw | ⟨ho, hw⟩
  · obtain ⟨vm₁, X₁, st1⟩ := X.invokevirtual ha hown (hg.1 _ hw rfl args s hwm) hnamed hmethM hstM hkP hkPi hy (a := ga G q) (cell := cell) (by rw [hT]; exact q1) hobj hselP hmethM habM hkP hkPi (g := F0 m pc ls (As.reverse ++ .ref (ga G q) :: rest)) rfl (argsL := As) (rest := rest) hlen rfl hd9
    exact ⟨vm₁, mk, X₁, X₁.named hnamed, st1⟩
  · obtain ⟨vm₁, X₁, st1⟩ := X.invokevirtualNest ha hown (hg.1 _ hw rfl args s hwm) hnamed hmethM hstM hkP hkPi hy (a := ga G q) (cell := cell) (by rw [hT]; exact q1) hobj hselP hmethM habM hkP hkPi (g := F0 m pc ls (As.reverse ++ .ref (ga G q) :: rest)) rfl (argsL := As) (rest := rest) hlen rfl hd9
    exact ⟨vm₁, mk, X₁, X₁.named hnamed, st1⟩
end XC
end
section
section XD
variable {G : Gd} {y : Mt} {d kf : Nat} {Z : Zt} {k pc n t : Nat} {lv lv' : List (Nat × Value)} {st : List Value} {M : Mm}
theorem x_goesS {y2 : Mt} {np idx : Nat} {As rest : List Value} {p : Program} {e : Env} {R : Room} {s T : State} {m : MethodId} {args : Array Value} {below : List Frame} {meth : Method} {c : Code} {locs : List Loc} {ls : Array Slot}
    (C : Cx G y d kf p R s m meth c) (hl : LkS (yC y) idx y2 np) (hi : tget (yT y) pc = some (.invokestatic idx, pc + 3, t)) (hnp : As.length = np) (X : Stand p (gl G) e R s m args below meth c T locs k (6 * k)) :
    ∃ (vm₁ : Vm) (mk : MethodId), Stand p (gl G) e R s m args below meth c (T.setVm vm₁) locs k (6 * k) ∧ (T.setVm vm₁).methodNamed? (yN y2) = some mk ∧
      ∀ target, (∀ acts, Steps p.tables e below (doInvoke e ((T.setVm vm₁).setTop (F0 m pc ls rest)) acts mk As.toArray).1 target) → Steps p.tables e below (T.setTop (F0 m pc ls (As.reverse ++ rest))) target := by
  obtain ⟨hg, hok, ha, hb, hret, hlk, hml, hown, hwm, -⟩ := id C
  obtain ⟨⟨hlink, hini, hcd, hy, hpd, -⟩, hst⟩ := hl
  have hd9 := (hok.get hi).1
  rw [Nat.add_sub_cancel_left, ← hb] at hd9
  have hcode := hg.1 _ hcd rfl args s hwm
  obtain ⟨mk, hnamed⟩ := Cond.code_named hcode
  obtain ⟨methM, cM, hmethM, -, -, -, -, -, -, hsigM⟩ := Cond.code_spec hnamed hcode
  have hstatic : methM.isStatic = true := Cond.static_spec hnamed hmethM (hg.1 _ hst rfl args s hwm)
  obtain ⟨kP, hkP, -⟩ := className_of_methodNamed hnamed
  have hinitP : kP.init = .initialized := Cond.initialized_spec (findClass_of_methodNamed hnamed) hkP (hg.1 _ hini rfl args s hwm)
  have hlen : As.length = methM.sig.parameters.length := by
    rw [hsigM] at hpd
    rw [hnp]
    exact (Option.some.inj hpd).symm
  rcases hlink with hw | ⟨ho, hw⟩
  · obtain ⟨vm₁, X₁, st1⟩ := X.invokestatic ha hown (hg.1 _ hw rfl args s hwm) hnamed hmethM hstatic hkP hinitP hy (g := F0 m pc ls (As.reverse ++ rest)) rfl (argsL := As) (rest := rest) hlen rfl hd9
    exact ⟨vm₁, mk, X₁, X₁.named hnamed, st1⟩
  · obtain ⟨vm₁, X₁, st1⟩ := X.invokestaticNest ha hown (hg.1 _ hw rfl args s hwm) hnamed hmethM hstatic hkP hinitP hy (g := F0 m pc ls (As.reverse ++ rest)) rfl (argsL := As) (rest := rest) hlen rfl hd9
    exact ⟨vm₁, mk, X₁, X₁.named hnamed, st1⟩
/-- a call that returns, or throws, out of its first step -/
theorem x_behind {y2 : Mt} {d2 k2 np idx : Nat} {av rest : List Value} {ig : Instr} {M2 : Mm} {o : Oc} {p : Program} {e : Env} {R : Room} {s T : State} {m : MethodId} {args : Array Value} {below : List Frame} {meth : Method} {c : Code} {H : Heap} {locs : List Loc} {ls : Array Slot} {st0 : List Value}
    (C : Cx G y d kf p R s m meth c) (hl : LkM (yC y) idx y2 np) (hd : d2 + 1 ≤ d) (hC : Ct G y2 d2 av M o M2 k2) (hk : k + k2 ≤ kf) (hi : tget (yT y) pc = some (ig, pc + 3, t)) (hW : (rest.map fun v => v.category).sum ≤ 8)
    (hH : Hq G M s H locs) (hL : lv_has ls (yL y) lv) (hT : T.heap = H)
    (go : ∃ (vm₁ : Vm) (mk : MethodId), Stand p (gl G) e R s m args below meth c (T.setVm vm₁) locs k (6 * k) ∧ (T.setVm vm₁).methodNamed? (yN y2) = some mk ∧
      ∀ target, (∀ acts, Steps p.tables e below (doInvoke e ((T.setVm vm₁).setTop (F0 m pc ls rest)) acts mk av.toArray).1 target) → Steps p.tables e below (T.setTop (F0 m pc ls st0)) target) :
    (∃ (v : Option Value) (T' : State) (L : List Loc), o = .inl v ∧ Stand p (gl G) e R s m args below meth c T' (locs ++ L) (k + k2) (6 * (k + k2)) ∧ Hq G M2 s T'.heap (locs ++ L) ∧ Steps p.tables e below (T.setTop (F0 m pc ls st0)) (T'.setTop (F0 m (pc + 3) ls (v.toList ++ rest)))) ∨
    (∃ (E : String) (q : Addr) (ce : Cell) (T' : State) (L : List Loc), o = .inr E ∧ Stand p (gl G) e R s m args below meth c T' (locs ++ L) (k + k2) (6 * (k + k2)) ∧ Hq G M2 s T'.heap (locs ++ L) ∧ T'.heap[q]? = some ce ∧ ce.vm = .none ∧ s.vm.findClass E = some ce.cls ∧
      Steps p.tables e below (T.setTop (F0 m pc ls st0)) ((T'.setTop (F0 m pc ls rest)).pushFrame (.throwing q))) := by
  obtain ⟨hg, hok, ha, hb, hret, hlk, hml, hown, hwm, hs1, hs2, hR1, hR2, hR3, hR4⟩ := id C
  have hd9 := (hok.get hi).1
  rw [Nat.add_sub_cancel_left, ← hb] at hd9
  obtain ⟨vm₁, mk, X₁, hnm, st1⟩ := go
  have hpre : PreOf R k2 (6 * k2) (Pcc G av M) ⟨T.setVm vm₁, locs, k, 6 * k⟩ av.toArray := by
    refine ⟨?_, ?_, rfl, ?_, ?_⟩
    · show k + k2 ≤ R.cells
      omega
    · show 6 * k + 6 * k2 ≤ R.slots
      omega
    · show HqE G M T.heap
      rw [hT]; exact hH.1
    · exact State.WarmedH.trans hwm X₁.warmed
  have e6 : 6 * k + 6 * k2 = 6 * (k + k2) := by omega
  rcases x_back (e := e) (below := below) (args := args) C hl hd hC m meth c ⟨T.setVm vm₁, locs, k, 6 * k⟩ (F0 m pc ls rest) ig mk av.toArray X₁ rfl (hL.1.trans hml.symm) hd9 (lv_room hW) hnm hpre with
    ⟨v, ⟨U', l2, c2, s2⟩, X', ⟨g', mk', u, L, e1, e2, hq, h1, hLl, h2, h3⟩, hsteps⟩ | ⟨q, ⟨U', l2, c2, s2⟩, X', ⟨g', mk', u, L, E, ce, e1, e2, hq, hce, hcv, hcl, h1, hLl, h2, h3⟩, hsteps⟩
  · dsimp only [Pt.U, Pt.locs, Pt.cells, Pt.slots] at X' e1 e2 h1 h2 h3 hsteps
    subst h1; subst h2; subst h3
    rw [e6] at X'
    obtain ⟨v', ho, hv', hE⟩ := hq
    cases hv'
    refine Or.inl ⟨v, U', L, ho, X', ⟨by rw [e1]; exact hE, X'.same.2.1, fun z hz => ?_⟩, st1 _ fun acts => by rw [doInvoke_state]; exact hsteps⟩
    rcases List.mem_append.mp hz with h | h
    · exact hH.2.2 z h
    · exact hLl z h
  · dsimp only [Pt.U, Pt.locs, Pt.cells, Pt.slots] at X' e1 e2 h1 h2 h3 hsteps hcl
    subst h1; subst h2; subst h3
    rw [e6] at X'
    obtain ⟨ho, hE⟩ := hq
    refine Or.inr ⟨E, q, ce, U', L, ho, X', ⟨by rw [e1]; exact hE, X'.same.2.1, fun z hz => ?_⟩, by rw [e1]; exact hce, hcv, vx_cls X₁.warmed hcl, st1 _ fun acts => by rw [doInvoke_state]; exact hsteps⟩
    rcases List.mem_append.mp hz with h | h
    · exact hH.2.2 z h
    · exact hLl z h
/-- an object's method is called, and returns -/
theorem x_callV {y2 : Mt} {d2 k2 np idx : Nat} {q : Ky} {ci : Nat} {u : u_T × Nat} {As rest : List Value} {v : Option Value} {M2 : Mm} (hC : Ct G y2 d2 (.ref (ga G q) :: As) M (.inl v) M2 k2) (hi : tget (yT y) pc = some (.invokevirtual idx, n, t)) (hn : pc + 3 = n) (hl : LkV (yC y) idx y2 np)
    (hs : shp q.1 = some (.inl ci)) (hcl : vwCl[ci]? = some ((yN y2).cls, u)) (hc : q.2 < cnt q.1) (hnp : As.length = np) (hst : st = As.reverse ++ .ref (ga G q) :: rest) (hW : (rest.map fun v => v.category).sum ≤ 8) (hd : d2 + 1 ≤ d) (hk : k + k2 ≤ kf)
    (kk : Fr G y d kf Z (k + k2) n lv (v.toList ++ rest) M2) : Fr G y d kf Z k pc lv st M := by
  intro p e R s m args below meth c H locs ls C hx hH hL T hT X
  subst hn
  rw [hst]
  rcases x_behind C hl.1 hd hC hk hi hW hH hL hT (x_goesV C hl hi hs hcl hc hnp hH hT X) with ⟨v', T', L, ho, X', hH', hsteps⟩ | ⟨E, q', ce, T', L, ho, -⟩
  · cases ho
    obtain ⟨t2, a1, b1⟩ := kk p e R s m args below meth c T'.heap (locs ++ L) ls C hx hH' hL T' rfl X'
    exact ⟨t2, hsteps.trans a1, b1⟩
  · cases ho
/-- .. and throws: so does this method -/
theorem x_throwV {y2 : Mt} {d2 k2 np idx : Nat} {q : Ky} {ci : Nat} {u : u_T × Nat} {As rest : List Value} {E : String} {M2 : Mm} (hC : Ct G y2 d2 (.ref (ga G q) :: As) M (.inr E) M2 k2) (hi : tget (yT y) pc = some (.invokevirtual idx, n, t)) (hn : pc + 3 = n) (hl : LkV (yC y) idx y2 np)
    (hs : shp q.1 = some (.inl ci)) (hcl : vwCl[ci]? = some ((yN y2).cls, u)) (hc : q.2 < cnt q.1) (hnp : As.length = np) (hst : st = As.reverse ++ .ref (ga G q) :: rest) (hW : (rest.map fun v => v.category).sum ≤ 8) (hd : d2 + 1 ≤ d) (hk : k + k2 ≤ kf) :
    Fr G y d kf (Zm G (.inr E) M2 kf) k pc lv st M := by
  intro p e R s m args below meth c H locs ls C hx hH hL T hT X
  subst hn
  rw [hst]
  rcases x_behind C hl.1 hd hC hk hi hW hH hL hT (x_goesV C hl hi hs hcl hc hnp hH hT X) with ⟨v', T', L, ho, -⟩ | ⟨E', q', ce, T', L, ho, X', hH', hce, hcv, hcls, hsteps⟩
  · cases ho
  · cases ho
    have hlk : meth.locks = false := C.2.2.2.2.2.1
    obtain ⟨t2, a1, b1⟩ := vx_out (Qc := Qcc G (.inr E) M2) (XC := XCc G (.inr E) M2) (free := fun z => gb G ≤ z) (mc := kf) (ms := 6 * kf) (pc := pc) (ls := ls) (rest := rest) (fun x h => (hx x h).elim) hlk hce hcv hcls (fun w hw _ => ⟨rfl, by rw [hw]; exact hH'.1⟩) hH'.2.2 hk (by omega) T' rfl X'
    exact ⟨t2, hsteps.trans a1, b1⟩
theorem x_callS {y2 : Mt} {d2 k2 np idx : Nat} {As rest : List Value} {v : Option Value} {M2 : Mm} (hC : Ct G y2 d2 As M (.inl v) M2 k2) (hi : tget (yT y) pc = some (.invokestatic idx, n, t)) (hn : pc + 3 = n) (hl : LkS (yC y) idx y2 np)
    (hnp : As.length = np) (hst : st = As.reverse ++ rest) (hW : (rest.map fun v => v.category).sum ≤ 8) (hd : d2 + 1 ≤ d) (hk : k + k2 ≤ kf)
    (kk : Fr G y d kf Z (k + k2) n lv (v.toList ++ rest) M2) : Fr G y d kf Z k pc lv st M := by
  intro p e R s m args below meth c H locs ls C hx hH hL T hT X
  subst hn
  rw [hst]
  rcases x_behind C hl.1 hd hC hk hi hW hH hL hT (x_goesS C hl hi hnp X) with ⟨v', T', L, ho, X', hH', hsteps⟩ | ⟨E, q', ce, T', L, ho, -⟩
  · cases ho
    obtain ⟨t2, a1, b1⟩ := kk p e R s m args below meth c T'.heap (locs ++ L) ls C hx hH' hL T' rfl X'
    exact ⟨t2, hsteps.trans a1, b1⟩
  · cases ho
/-- 'throw new E()' -/
def ThL (own ik ic : Nat) (E : String) : Prop := Cond.classLink (cnm own) ik E ∈ lw_tbl ∧ Cond.initialized E ∈ lw_tbl ∧ (∀ w ∈ vx_at0 (cnm own) ic E ["java/lang/RuntimeException", "java/lang/Exception"], w ∈ lw_tbl) ∧
  (∀ w ∈ Cond.classLink (cnm own) ik E :: Cond.initialized E :: vx_at0 (cnm own) ic E ["java/lang/RuntimeException", "java/lang/Exception"], vx_ot w = true) ∧ (∀ w ∈ vx_at0 (cnm own) ic E ["java/lang/RuntimeException", "java/lang/Exception"], okw w = true) ∧ Bundle.fit E = true
theorem x_throw {ik ic n2 n3 n4 t2 t3 t4 : Nat} {E : String} (hi : tget (yT y) pc = some (.new ik, n, t)) (hn : pc + 3 = n) (hi2 : tget (yT y) n = some (.dup, n2, t2)) (hn2 : pc + 4 = n2) (hi3 : tget (yT y) n2 = some (.invokespecial ic, n3, t3)) (hn3 : pc + 7 = n3) (hi4 : tget (yT y) n3 = some (.athrow, n4, t4)) (hn4 : pc + 8 = n4)
    (hl : ThL (yC y) ik ic E) (hW : (st.map fun v => v.category).sum ≤ 8) (hd : 6 ≤ d) (hk : k + 1 ≤ kf) : Fr G y d kf (Zm G (.inr E) M kf) k pc lv st M := by
  intro p e R s m args below meth c H locs ls C hx hH hL
  obtain ⟨hg, hok, ha, hb, hret, hlk, hml, hown, hwm, hs1, hs2, hR1, hR2, hR3, hR4⟩ := id C
  obtain ⟨w1, w2, w3, w4, w5, hf⟩ := hl
  subst hn; subst hn2; subst hn3; subst hn4
  have d0 := (hok.get hi).1
  have d3 := (hok.get hi2).1
  have d4 := (hok.get hi3).1
  have d7 := (hok.get hi4).1
  rw [Nat.add_sub_cancel_left] at d0
  rw [show pc + 4 - (pc + 3) = 1 by omega] at d3
  rw [show pc + 7 - (pc + 4) = 3 by omega] at d4
  rw [show pc + 8 - (pc + 7) = 1 by omega] at d7
  have hkeep : ∀ a : Nat, a < (gH G).size → ¬ gb G ≤ a → s.heap[a]? = (gH G)[a]? := fun a _ h => hs1 a (by omega)
  have hU : vx_Zq Bundle.tN "UNASSIGNED_STACK" Bundle.steD (fun q => gb G ≤ q) s s.heap := vx_Zq.moved hwm.alike (hg.2.2.2.2.2.1.kept hkeep)
  have hN : vx_Zq Bundle.tN "SUPPRESSED_SENTINEL" Bundle.listD (fun q => gb G ≤ q) s s.heap := vx_Zq.moved hwm.alike (hg.2.2.2.2.2.2.1.kept hkeep)
  refine vx_throw0 (A := fun q => gb G ≤ q) (names := ["java/lang/RuntimeException", "java/lang/Exception"]) ha hb hg.2.2.2.2.1 hown hf (by decide +kernel) (hg.1 _ w1 rfl args s hwm) (hg.1 _ w2 rfl args s hwm) (fun w hw => hg.1 w (w3 w hw) (w5 w hw) args s hwm) w4 hU hN ⟨hH.2.1, fun q h1 h2 => ?_, hH.2.2⟩ (hL.1.trans hml.symm) d0 d3 d4 d7 (fun x h => (hx x h).elim) ?_ ?_ ?_ ?_ hlk (fun u _ h1 h2 => ⟨rfl, ?_⟩) hH.2.2 hk ?_
  · rw [hs1 q (by omega)]
    exact hH.1.2.1 q (by omega)
  · show 2 + 3 < R.frames
    omega
  · show _ + (13 * 3 + 42) ≤ R.locals
    omega
  · omega
  · omega
  · refine ⟨fun k' sp hs hc => ?_, fun q hq => ?_, Nat.le_trans hH.1.2.2 h1⟩
    · have h0 := hH.1.1 k' sp hs hc
      cases sp with
      | inl ci =>
        have h8 : t_OB (ga G k') ((gD G).1 ci) (nfl ci) ((gD G).2 ci) H (fun j' => cval G M k' (ftyp ci j') j') := h0
        obtain ⟨cell, z1, z2⟩ := id h8
        exact h8.kept (h2 _ (Array.getElem?_eq_some_iff.mp z1).1)
      | inr q =>
        have h8 : H[ga G k']? = some (arrV (gk G q.1) q.2 (fun j' => cval G M k' (aty q.1) j')) := h0
        show u.heap[ga G k']? = _
        rw [h2 _ (Array.getElem?_eq_some_iff.mp h8).1]
        exact h8
    · rw [h2 q (Nat.lt_of_lt_of_le hq hH.1.2.2)]
      exact hH.1.2.1 q hq
  · omega
end XD
end
section
set_option maxRecDepth 20000 in
theorem inX0 : ∀ w ∈ u_ws RX0 TX0 2, w ∈ lw_tbl := by decide +kernel
set_option maxRecDepth 20000 in
theorem inX1 : ∀ w ∈ u_ws RX1 TX1 5, w ∈ lw_tbl := by decide +kernel
set_option maxRecDepth 20000 in
theorem inX2 : ∀ w ∈ u_ws RX2 TX2 11, w ∈ lw_tbl := by decide +kernel
set_option maxRecDepth 20000 in
theorem inX3 : ∀ w ∈ u_ws RX3 TX3 2, w ∈ lw_tbl := by decide +kernel
set_option maxRecDepth 20000 in
theorem inX4 : ∀ w ∈ u_ws RX4 TX4 6, w ∈ lw_tbl := by decide +kernel
set_option maxRecDepth 20000 in
theorem inX5 : ∀ w ∈ u_ws RX5 TX5 6, w ∈ lw_tbl := by decide +kernel
set_option maxRecDepth 20000 in
theorem inX6 : ∀ w ∈ u_ws RX6 TX6 3, w ∈ lw_tbl := by decide +kernel
set_option maxRecDepth 20000 in
theorem inX7 : ∀ w ∈ u_ws RX7 TX7 6, w ∈ lw_tbl := by decide +kernel
set_option maxRecDepth 20000 in
theorem inX8 : ∀ w ∈ u_ws RX8 TX8 6, w ∈ lw_tbl := by decide +kernel
set_option maxRecDepth 20000 in
theorem inX9 : ∀ w ∈ u_ws RX9 TX9 43, w ∈ lw_tbl := by decide +kernel
theorem f_8_20 : FLk 8 20 8 0 := ⟨RX8, TX8, 6, rfl, by decide, inX8, nmX8, tyX8_ok, Or.inl (List.mem_of_getElem? (i := 353) (by decide +kernel))⟩
theorem f_8_24 : FLk 8 24 8 1 := ⟨RX8, TX8, 6, rfl, by decide, inX8, nmX8, tyX8_ok, Or.inl (List.mem_of_getElem? (i := 354) (by decide +kernel))⟩
theorem f_8_28 : FLk 8 28 8 2 := ⟨RX8, TX8, 6, rfl, by decide, inX8, nmX8, tyX8_ok, Or.inl (List.mem_of_getElem? (i := 355) (by decide +kernel))⟩
theorem f_8_37 : FLk 8 37 8 3 := ⟨RX8, TX8, 6, rfl, by decide, inX8, nmX8, tyX8_ok, Or.inl (List.mem_of_getElem? (i := 356) (by decide +kernel))⟩
theorem f_8_46 : FLk 8 46 8 4 := ⟨RX8, TX8, 6, rfl, by decide, inX8, nmX8, tyX8_ok, Or.inl (List.mem_of_getElem? (i := 357) (by decide +kernel))⟩
theorem f_8_53 : FLk 8 53 8 5 := ⟨RX8, TX8, 6, rfl, by decide, inX8, nmX8, tyX8_ok, Or.inl (List.mem_of_getElem? (i := 358) (by decide +kernel))⟩
theorem f_8_57 : FLk 8 57 4 3 := ⟨RX4, TX4, 6, rfl, by decide, inX4, nmX4, tyX4_ok, Or.inr ⟨"GraphCourier", (List.mem_of_getElem? (i := 218) (by decide +kernel))⟩⟩
theorem f_8_64 : FLk 8 64 4 0 := ⟨RX4, TX4, 6, rfl, by decide, inX4, nmX4, tyX4_ok, Or.inr ⟨"GraphCourier", (List.mem_of_getElem? (i := 204) (by decide +kernel))⟩⟩
theorem f_8_79 : FLk 8 79 4 2 := ⟨RX4, TX4, 6, rfl, by decide, inX4, nmX4, tyX4_ok, Or.inr ⟨"GraphCourier", (List.mem_of_getElem? (i := 213) (by decide +kernel))⟩⟩
theorem f_8_83 : FLk 8 83 5 5 := ⟨RX5, TX5, 6, rfl, by decide, inX5, nmX5, tyX5_ok, Or.inr ⟨"GraphCourier", (List.mem_of_getElem? (i := 186) (by decide +kernel))⟩⟩
theorem f_8_92 : FLk 8 92 5 0 := ⟨RX5, TX5, 6, rfl, by decide, inX5, nmX5, tyX5_ok, Or.inr ⟨"GraphCourier", (List.mem_of_getElem? (i := 159) (by decide +kernel))⟩⟩
theorem f_8_109 : FLk 8 109 4 1 := ⟨RX4, TX4, 6, rfl, by decide, inX4, nmX4, tyX4_ok, Or.inr ⟨"GraphCourier", (List.mem_of_getElem? (i := 209) (by decide +kernel))⟩⟩
theorem f_8_113 : FLk 8 113 4 4 := ⟨RX4, TX4, 6, rfl, by decide, inX4, nmX4, tyX4_ok, Or.inr ⟨"GraphCourier", (List.mem_of_getElem? (i := 222) (by decide +kernel))⟩⟩
theorem f_8_143 : FLk 8 143 0 1 := ⟨RX0, TX0, 2, rfl, by decide, inX0, nmX0, tyX0_ok, Or.inr ⟨"GraphCourier", (List.mem_of_getElem? (i := 126) (by decide +kernel))⟩⟩
theorem f_8_158 : FLk 8 158 5 1 := ⟨RX5, TX5, 6, rfl, by decide, inX5, nmX5, tyX5_ok, Or.inr ⟨"GraphCourier", (List.mem_of_getElem? (i := 167) (by decide +kernel))⟩⟩
theorem f_8_165 : FLk 8 165 5 2 := ⟨RX5, TX5, 6, rfl, by decide, inX5, nmX5, tyX5_ok, Or.inr ⟨"GraphCourier", (List.mem_of_getElem? (i := 172) (by decide +kernel))⟩⟩
theorem f_8_178 : FLk 8 178 7 4 := ⟨RX7, TX7, 6, rfl, by decide, inX7, nmX7, tyX7_ok, Or.inr ⟨"GraphCourier", (List.mem_of_getElem? (i := 272) (by decide +kernel))⟩⟩
theorem f_8_182 : FLk 8 182 7 5 := ⟨RX7, TX7, 6, rfl, by decide, inX7, nmX7, tyX7_ok, Or.inr ⟨"GraphCourier", (List.mem_of_getElem? (i := 274) (by decide +kernel))⟩⟩
theorem f_8_186 : FLk 8 186 3 1 := ⟨RX3, TX3, 2, rfl, by decide, inX3, nmX3, tyX3_ok, Or.inr ⟨"GraphCourier", (List.mem_of_getElem? (i := 249) (by decide +kernel))⟩⟩
theorem f_8_195 : FLk 8 195 2 10 := ⟨RX2, TX2, 11, rfl, by decide, inX2, nmX2, tyX2_ok, Or.inr ⟨"GraphCourier", (List.mem_of_getElem? (i := 307) (by decide +kernel))⟩⟩
theorem f_8_198 : FLk 8 198 3 0 := ⟨RX3, TX3, 2, rfl, by decide, inX3, nmX3, tyX3_ok, Or.inr ⟨"GraphCourier", (List.mem_of_getElem? (i := 246) (by decide +kernel))⟩⟩
theorem f_8_207 : FLk 8 207 4 5 := ⟨RX4, TX4, 6, rfl, by decide, inX4, nmX4, tyX4_ok, Or.inr ⟨"GraphCourier", (List.mem_of_getElem? (i := 225) (by decide +kernel))⟩⟩
theorem f_8_213 : FLk 8 213 5 3 := ⟨RX5, TX5, 6, rfl, by decide, inX5, nmX5, tyX5_ok, Or.inr ⟨"GraphCourier", (List.mem_of_getElem? (i := 179) (by decide +kernel))⟩⟩
theorem f_8_220 : FLk 8 220 5 4 := ⟨RX5, TX5, 6, rfl, by decide, inX5, nmX5, tyX5_ok, Or.inr ⟨"GraphCourier", (List.mem_of_getElem? (i := 184) (by decide +kernel))⟩⟩
theorem f_8_239 : FLk 8 239 6 0 := ⟨RX6, TX6, 3, rfl, by decide, inX6, nmX6, tyX6_ok, Or.inr ⟨"GraphCourier", (List.mem_of_getElem? (i := 138) (by decide +kernel))⟩⟩
theorem f_0_9 : FLk 0 9 0 0 := ⟨RX0, TX0, 2, rfl, by decide, inX0, nmX0, tyX0_ok, Or.inl (List.mem_of_getElem? (i := 121) (by decide +kernel))⟩
theorem f_0_15 : FLk 0 15 0 1 := ⟨RX0, TX0, 2, rfl, by decide, inX0, nmX0, tyX0_ok, Or.inl (List.mem_of_getElem? (i := 122) (by decide +kernel))⟩
theorem f_1_9 : FLk 1 9 1 1 := ⟨RX1, TX1, 5, rfl, by decide, inX1, nmX1, tyX1_ok, Or.inl (List.mem_of_getElem? (i := 338) (by decide +kernel))⟩
theorem f_1_15 : FLk 1 15 1 2 := ⟨RX1, TX1, 5, rfl, by decide, inX1, nmX1, tyX1_ok, Or.inl (List.mem_of_getElem? (i := 339) (by decide +kernel))⟩
theorem f_1_18 : FLk 1 18 1 3 := ⟨RX1, TX1, 5, rfl, by decide, inX1, nmX1, tyX1_ok, Or.inl (List.mem_of_getElem? (i := 340) (by decide +kernel))⟩
theorem f_1_21 : FLk 1 21 1 0 := ⟨RX1, TX1, 5, rfl, by decide, inX1, nmX1, tyX1_ok, Or.inl (List.mem_of_getElem? (i := 337) (by decide +kernel))⟩
theorem f_1_31 : FLk 1 31 1 4 := ⟨RX1, TX1, 5, rfl, by decide, inX1, nmX1, tyX1_ok, Or.inl (List.mem_of_getElem? (i := 341) (by decide +kernel))⟩
theorem f_1_39 : FLk 1 39 4 2 := ⟨RX4, TX4, 6, rfl, by decide, inX4, nmX4, tyX4_ok, Or.inr ⟨"GraphCourier", (List.mem_of_getElem? (i := 214) (by decide +kernel))⟩⟩
theorem f_1_53 : FLk 1 53 4 0 := ⟨RX4, TX4, 6, rfl, by decide, inX4, nmX4, tyX4_ok, Or.inr ⟨"GraphCourier", (List.mem_of_getElem? (i := 206) (by decide +kernel))⟩⟩
theorem f_1_65 : FLk 1 65 5 3 := ⟨RX5, TX5, 6, rfl, by decide, inX5, nmX5, tyX5_ok, Or.inr ⟨"GraphCourier", (List.mem_of_getElem? (i := 176) (by decide +kernel))⟩⟩
theorem f_1_70 : FLk 1 70 5 5 := ⟨RX5, TX5, 6, rfl, by decide, inX5, nmX5, tyX5_ok, Or.inr ⟨"GraphCourier", (List.mem_of_getElem? (i := 188) (by decide +kernel))⟩⟩
theorem f_1_74 : FLk 1 74 5 4 := ⟨RX5, TX5, 6, rfl, by decide, inX5, nmX5, tyX5_ok, Or.inr ⟨"GraphCourier", (List.mem_of_getElem? (i := 183) (by decide +kernel))⟩⟩
theorem f_1_77 : FLk 1 77 5 1 := ⟨RX5, TX5, 6, rfl, by decide, inX5, nmX5, tyX5_ok, Or.inr ⟨"GraphCourier", (List.mem_of_getElem? (i := 165) (by decide +kernel))⟩⟩
theorem f_1_87 : FLk 1 87 5 0 := ⟨RX5, TX5, 6, rfl, by decide, inX5, nmX5, tyX5_ok, Or.inr ⟨"GraphCourier", (List.mem_of_getElem? (i := 162) (by decide +kernel))⟩⟩
theorem f_1_94 : FLk 1 94 5 2 := ⟨RX5, TX5, 6, rfl, by decide, inX5, nmX5, tyX5_ok, Or.inr ⟨"GraphCourier", (List.mem_of_getElem? (i := 170) (by decide +kernel))⟩⟩
theorem f_1_97 : FLk 1 97 0 1 := ⟨RX0, TX0, 2, rfl, by decide, inX0, nmX0, tyX0_ok, Or.inr ⟨"GraphCourier", (List.mem_of_getElem? (i := 125) (by decide +kernel))⟩⟩
theorem f_2_14 : FLk 2 14 2 3 := ⟨RX2, TX2, 11, rfl, by decide, inX2, nmX2, tyX2_ok, Or.inl (List.mem_of_getElem? (i := 299) (by decide +kernel))⟩
theorem f_2_20 : FLk 2 20 2 4 := ⟨RX2, TX2, 11, rfl, by decide, inX2, nmX2, tyX2_ok, Or.inl (List.mem_of_getElem? (i := 300) (by decide +kernel))⟩
theorem f_2_23 : FLk 2 23 2 5 := ⟨RX2, TX2, 11, rfl, by decide, inX2, nmX2, tyX2_ok, Or.inl (List.mem_of_getElem? (i := 301) (by decide +kernel))⟩
theorem f_2_26 : FLk 2 26 2 10 := ⟨RX2, TX2, 11, rfl, by decide, inX2, nmX2, tyX2_ok, Or.inl (List.mem_of_getElem? (i := 306) (by decide +kernel))⟩
theorem f_2_30 : FLk 2 30 2 0 := ⟨RX2, TX2, 11, rfl, by decide, inX2, nmX2, tyX2_ok, Or.inl (List.mem_of_getElem? (i := 296) (by decide +kernel))⟩
theorem f_2_34 : FLk 2 34 2 1 := ⟨RX2, TX2, 11, rfl, by decide, inX2, nmX2, tyX2_ok, Or.inl (List.mem_of_getElem? (i := 297) (by decide +kernel))⟩
theorem f_2_38 : FLk 2 38 2 2 := ⟨RX2, TX2, 11, rfl, by decide, inX2, nmX2, tyX2_ok, Or.inl (List.mem_of_getElem? (i := 298) (by decide +kernel))⟩
theorem f_2_44 : FLk 2 44 4 3 := ⟨RX4, TX4, 6, rfl, by decide, inX4, nmX4, tyX4_ok, Or.inr ⟨"GraphCourier", (List.mem_of_getElem? (i := 219) (by decide +kernel))⟩⟩
theorem f_2_49 : FLk 2 49 2 6 := ⟨RX2, TX2, 11, rfl, by decide, inX2, nmX2, tyX2_ok, Or.inl (List.mem_of_getElem? (i := 302) (by decide +kernel))⟩
theorem f_2_50 : FLk 2 50 4 4 := ⟨RX4, TX4, 6, rfl, by decide, inX4, nmX4, tyX4_ok, Or.inr ⟨"GraphCourier", (List.mem_of_getElem? (i := 221) (by decide +kernel))⟩⟩
theorem f_2_53 : FLk 2 53 2 7 := ⟨RX2, TX2, 11, rfl, by decide, inX2, nmX2, tyX2_ok, Or.inl (List.mem_of_getElem? (i := 303) (by decide +kernel))⟩
theorem f_2_54 : FLk 2 54 4 5 := ⟨RX4, TX4, 6, rfl, by decide, inX4, nmX4, tyX4_ok, Or.inr ⟨"GraphCourier", (List.mem_of_getElem? (i := 224) (by decide +kernel))⟩⟩
theorem f_2_57 : FLk 2 57 2 8 := ⟨RX2, TX2, 11, rfl, by decide, inX2, nmX2, tyX2_ok, Or.inl (List.mem_of_getElem? (i := 304) (by decide +kernel))⟩
theorem f_2_58 : FLk 2 58 2 9 := ⟨RX2, TX2, 11, rfl, by decide, inX2, nmX2, tyX2_ok, Or.inl (List.mem_of_getElem? (i := 305) (by decide +kernel))⟩
theorem f_2_96 : FLk 2 96 4 0 := ⟨RX4, TX4, 6, rfl, by decide, inX4, nmX4, tyX4_ok, Or.inr ⟨"GraphCourier", (List.mem_of_getElem? (i := 207) (by decide +kernel))⟩⟩
theorem f_2_106 : FLk 2 106 4 2 := ⟨RX4, TX4, 6, rfl, by decide, inX4, nmX4, tyX4_ok, Or.inr ⟨"GraphCourier", (List.mem_of_getElem? (i := 216) (by decide +kernel))⟩⟩
theorem f_2_136 : FLk 2 136 5 3 := ⟨RX5, TX5, 6, rfl, by decide, inX5, nmX5, tyX5_ok, Or.inr ⟨"GraphCourier", (List.mem_of_getElem? (i := 178) (by decide +kernel))⟩⟩
theorem f_2_139 : FLk 2 139 5 5 := ⟨RX5, TX5, 6, rfl, by decide, inX5, nmX5, tyX5_ok, Or.inr ⟨"GraphCourier", (List.mem_of_getElem? (i := 189) (by decide +kernel))⟩⟩
theorem f_2_143 : FLk 2 143 5 0 := ⟨RX5, TX5, 6, rfl, by decide, inX5, nmX5, tyX5_ok, Or.inr ⟨"GraphCourier", (List.mem_of_getElem? (i := 163) (by decide +kernel))⟩⟩
theorem f_2_160 : FLk 2 160 0 1 := ⟨RX0, TX0, 2, rfl, by decide, inX0, nmX0, tyX0_ok, Or.inr ⟨"GraphCourier", (List.mem_of_getElem? (i := 127) (by decide +kernel))⟩⟩
theorem f_2_178 : FLk 2 178 4 1 := ⟨RX4, TX4, 6, rfl, by decide, inX4, nmX4, tyX4_ok, Or.inr ⟨"GraphCourier", (List.mem_of_getElem? (i := 211) (by decide +kernel))⟩⟩
theorem f_2_186 : FLk 2 186 6 0 := ⟨RX6, TX6, 3, rfl, by decide, inX6, nmX6, tyX6_ok, Or.inr ⟨"GraphCourier", (List.mem_of_getElem? (i := 137) (by decide +kernel))⟩⟩
theorem f_2_196 : FLk 2 196 5 1 := ⟨RX5, TX5, 6, rfl, by decide, inX5, nmX5, tyX5_ok, Or.inr ⟨"GraphCourier", (List.mem_of_getElem? (i := 168) (by decide +kernel))⟩⟩
theorem f_2_203 : FLk 2 203 5 2 := ⟨RX5, TX5, 6, rfl, by decide, inX5, nmX5, tyX5_ok, Or.inr ⟨"GraphCourier", (List.mem_of_getElem? (i := 173) (by decide +kernel))⟩⟩
theorem f_2_210 : FLk 2 210 3 1 := ⟨RX3, TX3, 2, rfl, by decide, inX3, nmX3, tyX3_ok, Or.inr ⟨"GraphCourier", (List.mem_of_getElem? (i := 250) (by decide +kernel))⟩⟩
theorem f_2_216 : FLk 2 216 3 0 := ⟨RX3, TX3, 2, rfl, by decide, inX3, nmX3, tyX3_ok, Or.inr ⟨"GraphCourier", (List.mem_of_getElem? (i := 247) (by decide +kernel))⟩⟩
theorem f_3_9 : FLk 3 9 3 0 := ⟨RX3, TX3, 2, rfl, by decide, inX3, nmX3, tyX3_ok, Or.inl (List.mem_of_getElem? (i := 245) (by decide +kernel))⟩
theorem f_3_21 : FLk 3 21 3 1 := ⟨RX3, TX3, 2, rfl, by decide, inX3, nmX3, tyX3_ok, Or.inl (List.mem_of_getElem? (i := 248) (by decide +kernel))⟩
theorem f_4_9 : FLk 4 9 4 0 := ⟨RX4, TX4, 6, rfl, by decide, inX4, nmX4, tyX4_ok, Or.inl (List.mem_of_getElem? (i := 203) (by decide +kernel))⟩
theorem f_4_17 : FLk 4 17 4 1 := ⟨RX4, TX4, 6, rfl, by decide, inX4, nmX4, tyX4_ok, Or.inl (List.mem_of_getElem? (i := 208) (by decide +kernel))⟩
theorem f_4_23 : FLk 4 23 4 2 := ⟨RX4, TX4, 6, rfl, by decide, inX4, nmX4, tyX4_ok, Or.inl (List.mem_of_getElem? (i := 212) (by decide +kernel))⟩
theorem f_4_29 : FLk 4 29 4 3 := ⟨RX4, TX4, 6, rfl, by decide, inX4, nmX4, tyX4_ok, Or.inl (List.mem_of_getElem? (i := 217) (by decide +kernel))⟩
theorem f_4_33 : FLk 4 33 4 4 := ⟨RX4, TX4, 6, rfl, by decide, inX4, nmX4, tyX4_ok, Or.inl (List.mem_of_getElem? (i := 220) (by decide +kernel))⟩
theorem f_4_36 : FLk 4 36 4 5 := ⟨RX4, TX4, 6, rfl, by decide, inX4, nmX4, tyX4_ok, Or.inl (List.mem_of_getElem? (i := 223) (by decide +kernel))⟩
theorem f_4_62 : FLk 4 62 5 4 := ⟨RX5, TX5, 6, rfl, by decide, inX5, nmX5, tyX5_ok, Or.inr ⟨"GraphCourier", (List.mem_of_getElem? (i := 181) (by decide +kernel))⟩⟩
theorem f_4_64 : FLk 4 64 6 0 := ⟨RX6, TX6, 3, rfl, by decide, inX6, nmX6, tyX6_ok, Or.inr ⟨"GraphCourier", (List.mem_of_getElem? (i := 135) (by decide +kernel))⟩⟩
theorem f_4_68 : FLk 4 68 0 1 := ⟨RX0, TX0, 2, rfl, by decide, inX0, nmX0, tyX0_ok, Or.inr ⟨"GraphCourier", (List.mem_of_getElem? (i := 124) (by decide +kernel))⟩⟩
theorem f_4_73 : FLk 4 73 5 0 := ⟨RX5, TX5, 6, rfl, by decide, inX5, nmX5, tyX5_ok, Or.inr ⟨"GraphCourier", (List.mem_of_getElem? (i := 161) (by decide +kernel))⟩⟩
theorem f_4_84 : FLk 4 84 5 3 := ⟨RX5, TX5, 6, rfl, by decide, inX5, nmX5, tyX5_ok, Or.inr ⟨"GraphCourier", (List.mem_of_getElem? (i := 177) (by decide +kernel))⟩⟩
theorem f_4_87 : FLk 4 87 6 2 := ⟨RX6, TX6, 3, rfl, by decide, inX6, nmX6, tyX6_ok, Or.inr ⟨"GraphCourier", (List.mem_of_getElem? (i := 143) (by decide +kernel))⟩⟩
theorem f_5_14 : FLk 5 14 5 0 := ⟨RX5, TX5, 6, rfl, by decide, inX5, nmX5, tyX5_ok, Or.inl (List.mem_of_getElem? (i := 158) (by decide +kernel))⟩
theorem f_5_20 : FLk 5 20 5 1 := ⟨RX5, TX5, 6, rfl, by decide, inX5, nmX5, tyX5_ok, Or.inl (List.mem_of_getElem? (i := 164) (by decide +kernel))⟩
theorem f_5_23 : FLk 5 23 5 2 := ⟨RX5, TX5, 6, rfl, by decide, inX5, nmX5, tyX5_ok, Or.inl (List.mem_of_getElem? (i := 169) (by decide +kernel))⟩
theorem f_5_26 : FLk 5 26 5 3 := ⟨RX5, TX5, 6, rfl, by decide, inX5, nmX5, tyX5_ok, Or.inl (List.mem_of_getElem? (i := 174) (by decide +kernel))⟩
theorem f_5_30 : FLk 5 30 5 4 := ⟨RX5, TX5, 6, rfl, by decide, inX5, nmX5, tyX5_ok, Or.inl (List.mem_of_getElem? (i := 180) (by decide +kernel))⟩
theorem f_5_33 : FLk 5 33 5 5 := ⟨RX5, TX5, 6, rfl, by decide, inX5, nmX5, tyX5_ok, Or.inl (List.mem_of_getElem? (i := 185) (by decide +kernel))⟩
theorem f_6_14 : FLk 6 14 6 0 := ⟨RX6, TX6, 3, rfl, by decide, inX6, nmX6, tyX6_ok, Or.inl (List.mem_of_getElem? (i := 134) (by decide +kernel))⟩
theorem f_6_20 : FLk 6 20 6 1 := ⟨RX6, TX6, 3, rfl, by decide, inX6, nmX6, tyX6_ok, Or.inl (List.mem_of_getElem? (i := 139) (by decide +kernel))⟩
theorem f_6_24 : FLk 6 24 6 2 := ⟨RX6, TX6, 3, rfl, by decide, inX6, nmX6, tyX6_ok, Or.inl (List.mem_of_getElem? (i := 141) (by decide +kernel))⟩
theorem f_7_14 : FLk 7 14 7 1 := ⟨RX7, TX7, 6, rfl, by decide, inX7, nmX7, tyX7_ok, Or.inl (List.mem_of_getElem? (i := 268) (by decide +kernel))⟩
theorem f_7_20 : FLk 7 20 7 2 := ⟨RX7, TX7, 6, rfl, by decide, inX7, nmX7, tyX7_ok, Or.inl (List.mem_of_getElem? (i := 269) (by decide +kernel))⟩
theorem f_7_23 : FLk 7 23 7 3 := ⟨RX7, TX7, 6, rfl, by decide, inX7, nmX7, tyX7_ok, Or.inl (List.mem_of_getElem? (i := 270) (by decide +kernel))⟩
theorem f_7_26 : FLk 7 26 7 4 := ⟨RX7, TX7, 6, rfl, by decide, inX7, nmX7, tyX7_ok, Or.inl (List.mem_of_getElem? (i := 271) (by decide +kernel))⟩
theorem f_7_30 : FLk 7 30 7 0 := ⟨RX7, TX7, 6, rfl, by decide, inX7, nmX7, tyX7_ok, Or.inl (List.mem_of_getElem? (i := 267) (by decide +kernel))⟩
theorem f_7_37 : FLk 7 37 7 5 := ⟨RX7, TX7, 6, rfl, by decide, inX7, nmX7, tyX7_ok, Or.inl (List.mem_of_getElem? (i := 273) (by decide +kernel))⟩
theorem f_7_60 : FLk 7 60 4 0 := ⟨RX4, TX4, 6, rfl, by decide, inX4, nmX4, tyX4_ok, Or.inr ⟨"GraphCourier", (List.mem_of_getElem? (i := 205) (by decide +kernel))⟩⟩
theorem f_7_73 : FLk 7 73 4 2 := ⟨RX4, TX4, 6, rfl, by decide, inX4, nmX4, tyX4_ok, Or.inr ⟨"GraphCourier", (List.mem_of_getElem? (i := 215) (by decide +kernel))⟩⟩
theorem f_7_76 : FLk 7 76 5 3 := ⟨RX5, TX5, 6, rfl, by decide, inX5, nmX5, tyX5_ok, Or.inr ⟨"GraphCourier", (List.mem_of_getElem? (i := 175) (by decide +kernel))⟩⟩
theorem f_7_90 : FLk 7 90 5 5 := ⟨RX5, TX5, 6, rfl, by decide, inX5, nmX5, tyX5_ok, Or.inr ⟨"GraphCourier", (List.mem_of_getElem? (i := 187) (by decide +kernel))⟩⟩
theorem f_7_94 : FLk 7 94 5 0 := ⟨RX5, TX5, 6, rfl, by decide, inX5, nmX5, tyX5_ok, Or.inr ⟨"GraphCourier", (List.mem_of_getElem? (i := 160) (by decide +kernel))⟩⟩
theorem f_7_101 : FLk 7 101 0 1 := ⟨RX0, TX0, 2, rfl, by decide, inX0, nmX0, tyX0_ok, Or.inr ⟨"GraphCourier", (List.mem_of_getElem? (i := 123) (by decide +kernel))⟩⟩
theorem f_7_116 : FLk 7 116 5 4 := ⟨RX5, TX5, 6, rfl, by decide, inX5, nmX5, tyX5_ok, Or.inr ⟨"GraphCourier", (List.mem_of_getElem? (i := 182) (by decide +kernel))⟩⟩
theorem f_7_125 : FLk 7 125 4 1 := ⟨RX4, TX4, 6, rfl, by decide, inX4, nmX4, tyX4_ok, Or.inr ⟨"GraphCourier", (List.mem_of_getElem? (i := 210) (by decide +kernel))⟩⟩
theorem f_7_128 : FLk 7 128 6 0 := ⟨RX6, TX6, 3, rfl, by decide, inX6, nmX6, tyX6_ok, Or.inr ⟨"GraphCourier", (List.mem_of_getElem? (i := 136) (by decide +kernel))⟩⟩
theorem f_7_133 : FLk 7 133 6 2 := ⟨RX6, TX6, 3, rfl, by decide, inX6, nmX6, tyX6_ok, Or.inr ⟨"GraphCourier", (List.mem_of_getElem? (i := 142) (by decide +kernel))⟩⟩
theorem f_7_137 : FLk 7 137 6 1 := ⟨RX6, TX6, 3, rfl, by decide, inX6, nmX6, tyX6_ok, Or.inr ⟨"GraphCourier", (List.mem_of_getElem? (i := 140) (by decide +kernel))⟩⟩
theorem f_7_144 : FLk 7 144 5 1 := ⟨RX5, TX5, 6, rfl, by decide, inX5, nmX5, tyX5_ok, Or.inr ⟨"GraphCourier", (List.mem_of_getElem? (i := 166) (by decide +kernel))⟩⟩
theorem f_7_147 : FLk 7 147 5 2 := ⟨RX5, TX5, 6, rfl, by decide, inX5, nmX5, tyX5_ok, Or.inr ⟨"GraphCourier", (List.mem_of_getElem? (i := 171) (by decide +kernel))⟩⟩
theorem f_9_7 : FLk 9 7 9 2 := ⟨RX9, TX9, 43, rfl, by decide, inX9, nmX9, tyX9_ok, Or.inl (List.mem_of_getElem? (i := 929) (by decide +kernel))⟩
theorem f_9_13 : FLk 9 13 9 4 := ⟨RX9, TX9, 43, rfl, by decide, inX9, nmX9, tyX9_ok, Or.inl (List.mem_of_getElem? (i := 931) (by decide +kernel))⟩
theorem f_9_16 : FLk 9 16 9 5 := ⟨RX9, TX9, 43, rfl, by decide, inX9, nmX9, tyX9_ok, Or.inl (List.mem_of_getElem? (i := 932) (by decide +kernel))⟩
theorem f_9_20 : FLk 9 20 9 6 := ⟨RX9, TX9, 43, rfl, by decide, inX9, nmX9, tyX9_ok, Or.inl (List.mem_of_getElem? (i := 933) (by decide +kernel))⟩
theorem f_9_24 : FLk 9 24 9 7 := ⟨RX9, TX9, 43, rfl, by decide, inX9, nmX9, tyX9_ok, Or.inl (List.mem_of_getElem? (i := 934) (by decide +kernel))⟩
theorem f_9_27 : FLk 9 27 9 9 := ⟨RX9, TX9, 43, rfl, by decide, inX9, nmX9, tyX9_ok, Or.inl (List.mem_of_getElem? (i := 936) (by decide +kernel))⟩
theorem f_9_30 : FLk 9 30 9 10 := ⟨RX9, TX9, 43, rfl, by decide, inX9, nmX9, tyX9_ok, Or.inl (List.mem_of_getElem? (i := 937) (by decide +kernel))⟩
theorem f_9_33 : FLk 9 33 9 11 := ⟨RX9, TX9, 43, rfl, by decide, inX9, nmX9, tyX9_ok, Or.inl (List.mem_of_getElem? (i := 938) (by decide +kernel))⟩
theorem f_9_36 : FLk 9 36 9 12 := ⟨RX9, TX9, 43, rfl, by decide, inX9, nmX9, tyX9_ok, Or.inl (List.mem_of_getElem? (i := 939) (by decide +kernel))⟩
theorem f_9_39 : FLk 9 39 9 13 := ⟨RX9, TX9, 43, rfl, by decide, inX9, nmX9, tyX9_ok, Or.inl (List.mem_of_getElem? (i := 940) (by decide +kernel))⟩
theorem f_9_42 : FLk 9 42 9 14 := ⟨RX9, TX9, 43, rfl, by decide, inX9, nmX9, tyX9_ok, Or.inl (List.mem_of_getElem? (i := 941) (by decide +kernel))⟩
theorem f_9_45 : FLk 9 45 9 15 := ⟨RX9, TX9, 43, rfl, by decide, inX9, nmX9, tyX9_ok, Or.inl (List.mem_of_getElem? (i := 942) (by decide +kernel))⟩
theorem f_9_48 : FLk 9 48 9 16 := ⟨RX9, TX9, 43, rfl, by decide, inX9, nmX9, tyX9_ok, Or.inl (List.mem_of_getElem? (i := 943) (by decide +kernel))⟩
theorem f_9_51 : FLk 9 51 9 18 := ⟨RX9, TX9, 43, rfl, by decide, inX9, nmX9, tyX9_ok, Or.inl (List.mem_of_getElem? (i := 945) (by decide +kernel))⟩
theorem f_9_54 : FLk 9 54 9 20 := ⟨RX9, TX9, 43, rfl, by decide, inX9, nmX9, tyX9_ok, Or.inl (List.mem_of_getElem? (i := 947) (by decide +kernel))⟩
theorem f_9_57 : FLk 9 57 9 23 := ⟨RX9, TX9, 43, rfl, by decide, inX9, nmX9, tyX9_ok, Or.inl (List.mem_of_getElem? (i := 950) (by decide +kernel))⟩
theorem f_9_60 : FLk 9 60 9 25 := ⟨RX9, TX9, 43, rfl, by decide, inX9, nmX9, tyX9_ok, Or.inl (List.mem_of_getElem? (i := 952) (by decide +kernel))⟩
theorem f_9_63 : FLk 9 63 9 27 := ⟨RX9, TX9, 43, rfl, by decide, inX9, nmX9, tyX9_ok, Or.inl (List.mem_of_getElem? (i := 954) (by decide +kernel))⟩
theorem f_9_66 : FLk 9 66 9 29 := ⟨RX9, TX9, 43, rfl, by decide, inX9, nmX9, tyX9_ok, Or.inl (List.mem_of_getElem? (i := 956) (by decide +kernel))⟩
theorem f_9_69 : FLk 9 69 9 30 := ⟨RX9, TX9, 43, rfl, by decide, inX9, nmX9, tyX9_ok, Or.inl (List.mem_of_getElem? (i := 957) (by decide +kernel))⟩
theorem f_9_72 : FLk 9 72 9 31 := ⟨RX9, TX9, 43, rfl, by decide, inX9, nmX9, tyX9_ok, Or.inl (List.mem_of_getElem? (i := 958) (by decide +kernel))⟩
theorem f_9_75 : FLk 9 75 9 32 := ⟨RX9, TX9, 43, rfl, by decide, inX9, nmX9, tyX9_ok, Or.inl (List.mem_of_getElem? (i := 959) (by decide +kernel))⟩
theorem f_9_78 : FLk 9 78 9 34 := ⟨RX9, TX9, 43, rfl, by decide, inX9, nmX9, tyX9_ok, Or.inl (List.mem_of_getElem? (i := 961) (by decide +kernel))⟩
theorem f_9_81 : FLk 9 81 9 39 := ⟨RX9, TX9, 43, rfl, by decide, inX9, nmX9, tyX9_ok, Or.inl (List.mem_of_getElem? (i := 966) (by decide +kernel))⟩
theorem f_9_84 : FLk 9 84 9 40 := ⟨RX9, TX9, 43, rfl, by decide, inX9, nmX9, tyX9_ok, Or.inl (List.mem_of_getElem? (i := 967) (by decide +kernel))⟩
theorem f_9_87 : FLk 9 87 9 42 := ⟨RX9, TX9, 43, rfl, by decide, inX9, nmX9, tyX9_ok, Or.inl (List.mem_of_getElem? (i := 969) (by decide +kernel))⟩
theorem f_9_90 : FLk 9 90 9 21 := ⟨RX9, TX9, 43, rfl, by decide, inX9, nmX9, tyX9_ok, Or.inl (List.mem_of_getElem? (i := 948) (by decide +kernel))⟩
theorem f_9_94 : FLk 9 94 9 17 := ⟨RX9, TX9, 43, rfl, by decide, inX9, nmX9, tyX9_ok, Or.inl (List.mem_of_getElem? (i := 944) (by decide +kernel))⟩
theorem f_9_97 : FLk 9 97 9 0 := ⟨RX9, TX9, 43, rfl, by decide, inX9, nmX9, tyX9_ok, Or.inl (List.mem_of_getElem? (i := 927) (by decide +kernel))⟩
theorem f_9_114 : FLk 9 114 9 1 := ⟨RX9, TX9, 43, rfl, by decide, inX9, nmX9, tyX9_ok, Or.inl (List.mem_of_getElem? (i := 928) (by decide +kernel))⟩
theorem f_9_121 : FLk 9 121 9 8 := ⟨RX9, TX9, 43, rfl, by decide, inX9, nmX9, tyX9_ok, Or.inl (List.mem_of_getElem? (i := 935) (by decide +kernel))⟩
theorem f_9_142 : FLk 9 142 9 3 := ⟨RX9, TX9, 43, rfl, by decide, inX9, nmX9, tyX9_ok, Or.inl (List.mem_of_getElem? (i := 930) (by decide +kernel))⟩
theorem f_9_176 : FLk 9 176 9 33 := ⟨RX9, TX9, 43, rfl, by decide, inX9, nmX9, tyX9_ok, Or.inl (List.mem_of_getElem? (i := 960) (by decide +kernel))⟩
theorem f_9_179 : FLk 9 179 9 35 := ⟨RX9, TX9, 43, rfl, by decide, inX9, nmX9, tyX9_ok, Or.inl (List.mem_of_getElem? (i := 962) (by decide +kernel))⟩
theorem f_9_193 : FLk 9 193 9 22 := ⟨RX9, TX9, 43, rfl, by decide, inX9, nmX9, tyX9_ok, Or.inl (List.mem_of_getElem? (i := 949) (by decide +kernel))⟩
theorem f_9_196 : FLk 9 196 9 28 := ⟨RX9, TX9, 43, rfl, by decide, inX9, nmX9, tyX9_ok, Or.inl (List.mem_of_getElem? (i := 955) (by decide +kernel))⟩
theorem f_9_211 : FLk 9 211 9 24 := ⟨RX9, TX9, 43, rfl, by decide, inX9, nmX9, tyX9_ok, Or.inl (List.mem_of_getElem? (i := 951) (by decide +kernel))⟩
theorem f_9_220 : FLk 9 220 9 26 := ⟨RX9, TX9, 43, rfl, by decide, inX9, nmX9, tyX9_ok, Or.inl (List.mem_of_getElem? (i := 953) (by decide +kernel))⟩
theorem f_9_232 : FLk 9 232 9 19 := ⟨RX9, TX9, 43, rfl, by decide, inX9, nmX9, tyX9_ok, Or.inl (List.mem_of_getElem? (i := 946) (by decide +kernel))⟩
theorem f_9_235 : FLk 9 235 9 37 := ⟨RX9, TX9, 43, rfl, by decide, inX9, nmX9, tyX9_ok, Or.inl (List.mem_of_getElem? (i := 964) (by decide +kernel))⟩
theorem f_9_242 : FLk 9 242 9 36 := ⟨RX9, TX9, 43, rfl, by decide, inX9, nmX9, tyX9_ok, Or.inl (List.mem_of_getElem? (i := 963) (by decide +kernel))⟩
theorem f_9_255 : FLk 9 255 9 38 := ⟨RX9, TX9, 43, rfl, by decide, inX9, nmX9, tyX9_ok, Or.inl (List.mem_of_getElem? (i := 965) (by decide +kernel))⟩
theorem f_9_292 : FLk 9 292 9 41 := ⟨RX9, TX9, 43, rfl, by decide, inX9, nmX9, tyX9_ok, Or.inl (List.mem_of_getElem? (i := 968) (by decide +kernel))⟩
theorem s_8_68 : LkS 8 68 mX8_valueOf 2 := ⟨⟨Or.inl (List.mem_of_getElem? (i := 593) (by decide +kernel)), (List.mem_of_getElem? (i := 74) (by decide +kernel)), (List.mem_of_getElem? (i := 595) (by decide +kernel)), ⟨by decide +kernel, by decide +kernel⟩, by decide +kernel, by decide⟩, (List.mem_of_getElem? (i := 594) (by decide +kernel))⟩
theorem v_8_72 : LkV 8 72 mX8_refuseFortyFirst 0 := ⟨⟨Or.inl (List.mem_of_getElem? (i := 604) (by decide +kernel)), (List.mem_of_getElem? (i := 74) (by decide +kernel)), (List.mem_of_getElem? (i := 607) (by decide +kernel)), ⟨by decide +kernel, by decide +kernel⟩, by decide +kernel, by decide⟩, (List.mem_of_getElem? (i := 606) (by decide +kernel)), (List.mem_of_getElem? (i := 5) (by decide +kernel))⟩
theorem v_8_75 : LkV 8 75 mX4_makeThing 1 := ⟨⟨Or.inl (List.mem_of_getElem? (i := 608) (by decide +kernel)), (List.mem_of_getElem? (i := 75) (by decide +kernel)), (List.mem_of_getElem? (i := 611) (by decide +kernel)), ⟨by decide +kernel, by decide +kernel⟩, by decide +kernel, by decide⟩, (List.mem_of_getElem? (i := 609) (by decide +kernel)), (List.mem_of_getElem? (i := 610) (by decide +kernel))⟩
theorem v_8_97 : LkV 8 97 mX0_add 1 := ⟨⟨Or.inl (List.mem_of_getElem? (i := 393) (by decide +kernel)), (List.mem_of_getElem? (i := 77) (by decide +kernel)), (List.mem_of_getElem? (i := 396) (by decide +kernel)), ⟨by decide +kernel, by decide +kernel⟩, by decide +kernel, by decide⟩, (List.mem_of_getElem? (i := 394) (by decide +kernel)), (List.mem_of_getElem? (i := 395) (by decide +kernel))⟩
theorem s_8_101 : LkS 8 101 mX8_isText 1 := ⟨⟨Or.inl (List.mem_of_getElem? (i := 376) (by decide +kernel)), (List.mem_of_getElem? (i := 74) (by decide +kernel)), (List.mem_of_getElem? (i := 378) (by decide +kernel)), ⟨by decide +kernel, by decide +kernel⟩, by decide +kernel, by decide⟩, (List.mem_of_getElem? (i := 377) (by decide +kernel))⟩
theorem s_8_105 : LkS 8 105 mX8_canBeMembers 3 := ⟨⟨Or.inl (List.mem_of_getElem? (i := 657) (by decide +kernel)), (List.mem_of_getElem? (i := 74) (by decide +kernel)), (List.mem_of_getElem? (i := 659) (by decide +kernel)), ⟨by decide +kernel, by decide +kernel⟩, by decide +kernel, by decide⟩, (List.mem_of_getElem? (i := 658) (by decide +kernel))⟩
theorem v_8_116 : LkV 8 116 mX6_become 2 := ⟨⟨Or.inl (List.mem_of_getElem? (i := 660) (by decide +kernel)), (List.mem_of_getElem? (i := 76) (by decide +kernel)), (List.mem_of_getElem? (i := 663) (by decide +kernel)), ⟨by decide +kernel, by decide +kernel⟩, by decide +kernel, by decide⟩, (List.mem_of_getElem? (i := 661) (by decide +kernel)), (List.mem_of_getElem? (i := 662) (by decide +kernel))⟩
theorem s_8_122 : LkS 8 122 mX8_addMember 2 := ⟨⟨Or.inl (List.mem_of_getElem? (i := 665) (by decide +kernel)), (List.mem_of_getElem? (i := 74) (by decide +kernel)), (List.mem_of_getElem? (i := 667) (by decide +kernel)), ⟨by decide +kernel, by decide +kernel⟩, by decide +kernel, by decide⟩, (List.mem_of_getElem? (i := 666) (by decide +kernel))⟩
theorem v_8_126 : LkV 8 126 mX4_placeOfDraft 1 := ⟨⟨Or.inl (List.mem_of_getElem? (i := 668) (by decide +kernel)), (List.mem_of_getElem? (i := 75) (by decide +kernel)), (List.mem_of_getElem? (i := 671) (by decide +kernel)), ⟨by decide +kernel, by decide +kernel⟩, by decide +kernel, by decide⟩, (List.mem_of_getElem? (i := 669) (by decide +kernel)), (List.mem_of_getElem? (i := 670) (by decide +kernel))⟩
theorem v_8_129 : LkV 8 129 mX4_giveTraits 2 := ⟨⟨Or.inl (List.mem_of_getElem? (i := 684) (by decide +kernel)), (List.mem_of_getElem? (i := 75) (by decide +kernel)), (List.mem_of_getElem? (i := 687) (by decide +kernel)), ⟨by decide +kernel, by decide +kernel⟩, by decide +kernel, by decide⟩, (List.mem_of_getElem? (i := 685) (by decide +kernel)), (List.mem_of_getElem? (i := 686) (by decide +kernel))⟩
theorem v_8_133 : LkV 8 133 mX8_kind 1 := ⟨⟨Or.inl (List.mem_of_getElem? (i := 696) (by decide +kernel)), (List.mem_of_getElem? (i := 74) (by decide +kernel)), (List.mem_of_getElem? (i := 427) (by decide +kernel)), ⟨by decide +kernel, by decide +kernel⟩, by decide +kernel, by decide⟩, (List.mem_of_getElem? (i := 425) (by decide +kernel)), (List.mem_of_getElem? (i := 426) (by decide +kernel))⟩
theorem v_8_136 : LkV 8 136 mX4_isValue 1 := ⟨⟨Or.inl (List.mem_of_getElem? (i := 466) (by decide +kernel)), (List.mem_of_getElem? (i := 75) (by decide +kernel)), (List.mem_of_getElem? (i := 469) (by decide +kernel)), ⟨by decide +kernel, by decide +kernel⟩, by decide +kernel, by decide⟩, (List.mem_of_getElem? (i := 467) (by decide +kernel)), (List.mem_of_getElem? (i := 468) (by decide +kernel))⟩
theorem v_8_139 : LkV 8 139 mX0_isFull 0 := ⟨⟨Or.inl (List.mem_of_getElem? (i := 389) (by decide +kernel)), (List.mem_of_getElem? (i := 77) (by decide +kernel)), (List.mem_of_getElem? (i := 392) (by decide +kernel)), ⟨by decide +kernel, by decide +kernel⟩, by decide +kernel, by decide⟩, (List.mem_of_getElem? (i := 390) (by decide +kernel)), (List.mem_of_getElem? (i := 391) (by decide +kernel))⟩
theorem v_8_146 : LkV 8 146 mX8_hasItem 2 := ⟨⟨Or.inl (List.mem_of_getElem? (i := 704) (by decide +kernel)), (List.mem_of_getElem? (i := 74) (by decide +kernel)), (List.mem_of_getElem? (i := 707) (by decide +kernel)), ⟨by decide +kernel, by decide +kernel⟩, by decide +kernel, by decide⟩, (List.mem_of_getElem? (i := 706) (by decide +kernel)), (List.mem_of_getElem? (i := 6) (by decide +kernel))⟩
theorem v_8_150 : LkV 8 150 mX0_replace 2 := ⟨⟨Or.inl (List.mem_of_getElem? (i := 708) (by decide +kernel)), (List.mem_of_getElem? (i := 77) (by decide +kernel)), (List.mem_of_getElem? (i := 711) (by decide +kernel)), ⟨by decide +kernel, by decide +kernel⟩, by decide +kernel, by decide⟩, (List.mem_of_getElem? (i := 709) (by decide +kernel)), (List.mem_of_getElem? (i := 710) (by decide +kernel))⟩
theorem v_8_154 : LkV 8 154 mX8_canHaveKey 2 := ⟨⟨Or.inl (List.mem_of_getElem? (i := 719) (by decide +kernel)), (List.mem_of_getElem? (i := 74) (by decide +kernel)), (List.mem_of_getElem? (i := 722) (by decide +kernel)), ⟨by decide +kernel, by decide +kernel⟩, by decide +kernel, by decide⟩, (List.mem_of_getElem? (i := 721) (by decide +kernel)), (List.mem_of_getElem? (i := 7) (by decide +kernel))⟩
theorem v_8_161 : LkV 8 161 mX0_placeOf 1 := ⟨⟨Or.inl (List.mem_of_getElem? (i := 732) (by decide +kernel)), (List.mem_of_getElem? (i := 77) (by decide +kernel)), (List.mem_of_getElem? (i := 388) (by decide +kernel)), ⟨by decide +kernel, by decide +kernel⟩, by decide +kernel, by decide⟩, (List.mem_of_getElem? (i := 386) (by decide +kernel)), (List.mem_of_getElem? (i := 387) (by decide +kernel))⟩
theorem v_8_168 : LkV 8 168 mX0_has 1 := ⟨⟨Or.inl (List.mem_of_getElem? (i := 381) (by decide +kernel)), (List.mem_of_getElem? (i := 77) (by decide +kernel)), (List.mem_of_getElem? (i := 384) (by decide +kernel)), ⟨by decide +kernel, by decide +kernel⟩, by decide +kernel, by decide⟩, (List.mem_of_getElem? (i := 382) (by decide +kernel)), (List.mem_of_getElem? (i := 383) (by decide +kernel))⟩
theorem v_8_171 : LkV 8 171 mX7_start 0 := ⟨⟨Or.inl (List.mem_of_getElem? (i := 740) (by decide +kernel)), (List.mem_of_getElem? (i := 80) (by decide +kernel)), (List.mem_of_getElem? (i := 743) (by decide +kernel)), ⟨by decide +kernel, by decide +kernel⟩, by decide +kernel, by decide⟩, (List.mem_of_getElem? (i := 741) (by decide +kernel)), (List.mem_of_getElem? (i := 742) (by decide +kernel))⟩
theorem v_8_174 : LkV 8 174 mX7_writeValue 2 := ⟨⟨Or.inr ⟨"GraphCourier", (List.mem_of_getElem? (i := 745) (by decide +kernel))⟩, (List.mem_of_getElem? (i := 80) (by decide +kernel)), (List.mem_of_getElem? (i := 748) (by decide +kernel)), ⟨by decide +kernel, by decide +kernel⟩, by decide +kernel, by decide⟩, (List.mem_of_getElem? (i := 747) (by decide +kernel)), (List.mem_of_getElem? (i := 8) (by decide +kernel))⟩
theorem v_8_183 : LkV 8 183 mX3_become 2 := ⟨⟨Or.inl (List.mem_of_getElem? (i := 804) (by decide +kernel)), (List.mem_of_getElem? (i := 79) (by decide +kernel)), (List.mem_of_getElem? (i := 807) (by decide +kernel)), ⟨by decide +kernel, by decide +kernel⟩, by decide +kernel, by decide⟩, (List.mem_of_getElem? (i := 805) (by decide +kernel)), (List.mem_of_getElem? (i := 806) (by decide +kernel))⟩
theorem v_8_187 : LkV 8 187 mX2_start 0 := ⟨⟨Or.inl (List.mem_of_getElem? (i := 818) (by decide +kernel)), (List.mem_of_getElem? (i := 81) (by decide +kernel)), (List.mem_of_getElem? (i := 821) (by decide +kernel)), ⟨by decide +kernel, by decide +kernel⟩, by decide +kernel, by decide⟩, (List.mem_of_getElem? (i := 819) (by decide +kernel)), (List.mem_of_getElem? (i := 820) (by decide +kernel))⟩
theorem v_8_188 : LkV 8 188 mX2_readValue 1 := ⟨⟨Or.inr ⟨"GraphCourier", (List.mem_of_getElem? (i := 823) (by decide +kernel))⟩, (List.mem_of_getElem? (i := 81) (by decide +kernel)), (List.mem_of_getElem? (i := 826) (by decide +kernel)), ⟨by decide +kernel, by decide +kernel⟩, by decide +kernel, by decide⟩, (List.mem_of_getElem? (i := 825) (by decide +kernel)), (List.mem_of_getElem? (i := 19) (by decide +kernel))⟩
theorem v_8_192 : LkV 8 192 mX2_keep 0 := ⟨⟨Or.inl (List.mem_of_getElem? (i := 916) (by decide +kernel)), (List.mem_of_getElem? (i := 81) (by decide +kernel)), (List.mem_of_getElem? (i := 919) (by decide +kernel)), ⟨by decide +kernel, by decide +kernel⟩, by decide +kernel, by decide⟩, (List.mem_of_getElem? (i := 917) (by decide +kernel)), (List.mem_of_getElem? (i := 918) (by decide +kernel))⟩
theorem s_8_201 : LkS 8 201 mJ9_max_7cf53 2 := ⟨⟨Or.inl (List.mem_of_getElem? (i := 413) (by decide +kernel)), (List.mem_of_getElem? (i := 90) (by decide +kernel)), (List.mem_of_getElem? (i := 415) (by decide +kernel)), ⟨by decide +kernel, by decide +kernel⟩, by decide +kernel, by decide⟩, (List.mem_of_getElem? (i := 414) (by decide +kernel))⟩
theorem v_8_210 : LkV 8 210 mX4_isThing 1 := ⟨⟨Or.inl (List.mem_of_getElem? (i := 428) (by decide +kernel)), (List.mem_of_getElem? (i := 75) (by decide +kernel)), (List.mem_of_getElem? (i := 431) (by decide +kernel)), ⟨by decide +kernel, by decide +kernel⟩, by decide +kernel, by decide⟩, (List.mem_of_getElem? (i := 429) (by decide +kernel)), (List.mem_of_getElem? (i := 430) (by decide +kernel))⟩
theorem v_8_217 : LkV 8 217 mX0_at 1 := ⟨⟨Or.inl (List.mem_of_getElem? (i := 441) (by decide +kernel)), (List.mem_of_getElem? (i := 77) (by decide +kernel)), (List.mem_of_getElem? (i := 444) (by decide +kernel)), ⟨by decide +kernel, by decide +kernel⟩, by decide +kernel, by decide⟩, (List.mem_of_getElem? (i := 442) (by decide +kernel)), (List.mem_of_getElem? (i := 443) (by decide +kernel))⟩
theorem v_8_222 : LkV 8 222 mX1_start 0 := ⟨⟨Or.inl (List.mem_of_getElem? (i := 481) (by decide +kernel)), (List.mem_of_getElem? (i := 82) (by decide +kernel)), (List.mem_of_getElem? (i := 484) (by decide +kernel)), ⟨by decide +kernel, by decide +kernel⟩, by decide +kernel, by decide⟩, (List.mem_of_getElem? (i := 482) (by decide +kernel)), (List.mem_of_getElem? (i := 483) (by decide +kernel))⟩
theorem v_8_223 : LkV 8 223 mX1_matches 2 := ⟨⟨Or.inl (List.mem_of_getElem? (i := 488) (by decide +kernel)), (List.mem_of_getElem? (i := 82) (by decide +kernel)), (List.mem_of_getElem? (i := 491) (by decide +kernel)), ⟨by decide +kernel, by decide +kernel⟩, by decide +kernel, by decide⟩, (List.mem_of_getElem? (i := 489) (by decide +kernel)), (List.mem_of_getElem? (i := 490) (by decide +kernel))⟩
theorem v_8_227 : LkV 8 227 mX4_keepOnly 3 := ⟨⟨Or.inl (List.mem_of_getElem? (i := 519) (by decide +kernel)), (List.mem_of_getElem? (i := 75) (by decide +kernel)), (List.mem_of_getElem? (i := 522) (by decide +kernel)), ⟨by decide +kernel, by decide +kernel⟩, by decide +kernel, by decide⟩, (List.mem_of_getElem? (i := 520) (by decide +kernel)), (List.mem_of_getElem? (i := 521) (by decide +kernel))⟩
theorem v_8_231 : LkV 8 231 mX4_canHavePairs 1 := ⟨⟨Or.inl (List.mem_of_getElem? (i := 723) (by decide +kernel)), (List.mem_of_getElem? (i := 75) (by decide +kernel)), (List.mem_of_getElem? (i := 726) (by decide +kernel)), ⟨by decide +kernel, by decide +kernel⟩, by decide +kernel, by decide⟩, (List.mem_of_getElem? (i := 724) (by decide +kernel)), (List.mem_of_getElem? (i := 725) (by decide +kernel))⟩
theorem v_8_235 : LkV 8 235 mX4_isMember 2 := ⟨⟨Or.inl (List.mem_of_getElem? (i := 727) (by decide +kernel)), (List.mem_of_getElem? (i := 75) (by decide +kernel)), (List.mem_of_getElem? (i := 730) (by decide +kernel)), ⟨by decide +kernel, by decide +kernel⟩, by decide +kernel, by decide⟩, (List.mem_of_getElem? (i := 728) (by decide +kernel)), (List.mem_of_getElem? (i := 729) (by decide +kernel))⟩
theorem v_0_21 : LkV 0 21 mX0_placeOf 1 := ⟨⟨Or.inl (List.mem_of_getElem? (i := 385) (by decide +kernel)), (List.mem_of_getElem? (i := 77) (by decide +kernel)), (List.mem_of_getElem? (i := 388) (by decide +kernel)), ⟨by decide +kernel, by decide +kernel⟩, by decide +kernel, by decide⟩, (List.mem_of_getElem? (i := 386) (by decide +kernel)), (List.mem_of_getElem? (i := 387) (by decide +kernel))⟩
theorem s_1_25 : LkS 1 25 mJ7_fill_53178 2 := ⟨⟨Or.inl (List.mem_of_getElem? (i := 485) (by decide +kernel)), (List.mem_of_getElem? (i := 91) (by decide +kernel)), (List.mem_of_getElem? (i := 487) (by decide +kernel)), ⟨by decide +kernel, by decide +kernel⟩, by decide +kernel, by decide⟩, (List.mem_of_getElem? (i := 486) (by decide +kernel))⟩
theorem v_1_35 : LkV 1 35 mX1_meet 2 := ⟨⟨Or.inl (List.mem_of_getElem? (i := 492) (by decide +kernel)), (List.mem_of_getElem? (i := 82) (by decide +kernel)), (List.mem_of_getElem? (i := 495) (by decide +kernel)), ⟨by decide +kernel, by decide +kernel⟩, by decide +kernel, by decide⟩, (List.mem_of_getElem? (i := 494) (by decide +kernel)), (List.mem_of_getElem? (i := 0) (by decide +kernel))⟩
theorem v_1_45 : LkV 1 45 mX1_matchThings 2 := ⟨⟨Or.inl (List.mem_of_getElem? (i := 502) (by decide +kernel)), (List.mem_of_getElem? (i := 82) (by decide +kernel)), (List.mem_of_getElem? (i := 505) (by decide +kernel)), ⟨by decide +kernel, by decide +kernel⟩, by decide +kernel, by decide⟩, (List.mem_of_getElem? (i := 504) (by decide +kernel)), (List.mem_of_getElem? (i := 2) (by decide +kernel))⟩
theorem s_1_49 : LkS 1 49 mX8_kindOf 1 := ⟨⟨Or.inr ⟨"GraphCourier", (List.mem_of_getElem? (i := 496) (by decide +kernel))⟩, (List.mem_of_getElem? (i := 74) (by decide +kernel)), (List.mem_of_getElem? (i := 472) (by decide +kernel)), ⟨by decide +kernel, by decide +kernel⟩, by decide +kernel, by decide⟩, (List.mem_of_getElem? (i := 471) (by decide +kernel))⟩
theorem s_1_57 : LkS 1 57 mX8_aboveKind 1 := ⟨⟨Or.inr ⟨"GraphCourier", (List.mem_of_getElem? (i := 497) (by decide +kernel))⟩, (List.mem_of_getElem? (i := 74) (by decide +kernel)), (List.mem_of_getElem? (i := 476) (by decide +kernel)), ⟨by decide +kernel, by decide +kernel⟩, by decide +kernel, by decide⟩, (List.mem_of_getElem? (i := 475) (by decide +kernel))⟩
theorem v_1_61 : LkV 1 61 mX1_becomePartners 2 := ⟨⟨Or.inl (List.mem_of_getElem? (i := 498) (by decide +kernel)), (List.mem_of_getElem? (i := 82) (by decide +kernel)), (List.mem_of_getElem? (i := 501) (by decide +kernel)), ⟨by decide +kernel, by decide +kernel⟩, by decide +kernel, by decide⟩, (List.mem_of_getElem? (i := 500) (by decide +kernel)), (List.mem_of_getElem? (i := 1) (by decide +kernel))⟩
theorem v_1_81 : LkV 1 81 mX0_isLike 1 := ⟨⟨Or.inl (List.mem_of_getElem? (i := 506) (by decide +kernel)), (List.mem_of_getElem? (i := 77) (by decide +kernel)), (List.mem_of_getElem? (i := 509) (by decide +kernel)), ⟨by decide +kernel, by decide +kernel⟩, by decide +kernel, by decide⟩, (List.mem_of_getElem? (i := 507) (by decide +kernel)), (List.mem_of_getElem? (i := 508) (by decide +kernel))⟩
theorem v_1_90 : LkV 1 90 mX1_meetAll 2 := ⟨⟨Or.inl (List.mem_of_getElem? (i := 510) (by decide +kernel)), (List.mem_of_getElem? (i := 82) (by decide +kernel)), (List.mem_of_getElem? (i := 513) (by decide +kernel)), ⟨by decide +kernel, by decide +kernel⟩, by decide +kernel, by decide⟩, (List.mem_of_getElem? (i := 512) (by decide +kernel)), (List.mem_of_getElem? (i := 3) (by decide +kernel))⟩
theorem v_1_100 : LkV 1 100 mX0_at 1 := ⟨⟨Or.inl (List.mem_of_getElem? (i := 514) (by decide +kernel)), (List.mem_of_getElem? (i := 77) (by decide +kernel)), (List.mem_of_getElem? (i := 444) (by decide +kernel)), ⟨by decide +kernel, by decide +kernel⟩, by decide +kernel, by decide⟩, (List.mem_of_getElem? (i := 442) (by decide +kernel)), (List.mem_of_getElem? (i := 443) (by decide +kernel))⟩
theorem v_2_41 : LkV 2 41 mX0_empty 0 := ⟨⟨Or.inl (List.mem_of_getElem? (i := 822) (by decide +kernel)), (List.mem_of_getElem? (i := 77) (by decide +kernel)), (List.mem_of_getElem? (i := 619) (by decide +kernel)), ⟨by decide +kernel, by decide +kernel⟩, by decide +kernel, by decide⟩, (List.mem_of_getElem? (i := 617) (by decide +kernel)), (List.mem_of_getElem? (i := 618) (by decide +kernel))⟩
theorem v_2_61 : LkV 2 61 mX4_keepOnly 3 := ⟨⟨Or.inl (List.mem_of_getElem? (i := 920) (by decide +kernel)), (List.mem_of_getElem? (i := 75) (by decide +kernel)), (List.mem_of_getElem? (i := 522) (by decide +kernel)), ⟨by decide +kernel, by decide +kernel⟩, by decide +kernel, by decide⟩, (List.mem_of_getElem? (i := 520) (by decide +kernel)), (List.mem_of_getElem? (i := 521) (by decide +kernel))⟩
theorem v_2_65 : LkV 2 65 mX2_readByte 0 := ⟨⟨Or.inl (List.mem_of_getElem? (i := 827) (by decide +kernel)), (List.mem_of_getElem? (i := 81) (by decide +kernel)), (List.mem_of_getElem? (i := 830) (by decide +kernel)), ⟨by decide +kernel, by decide +kernel⟩, by decide +kernel, by decide⟩, (List.mem_of_getElem? (i := 829) (by decide +kernel)), (List.mem_of_getElem? (i := 20) (by decide +kernel))⟩
theorem v_2_69 : LkV 2 69 mX2_readInteger 0 := ⟨⟨Or.inl (List.mem_of_getElem? (i := 833) (by decide +kernel)), (List.mem_of_getElem? (i := 81) (by decide +kernel)), (List.mem_of_getElem? (i := 836) (by decide +kernel)), ⟨by decide +kernel, by decide +kernel⟩, by decide +kernel, by decide⟩, (List.mem_of_getElem? (i := 835) (by decide +kernel)), (List.mem_of_getElem? (i := 21) (by decide +kernel))⟩
theorem v_2_73 : LkV 2 73 mX2_readWide 1 := ⟨⟨Or.inl (List.mem_of_getElem? (i := 844) (by decide +kernel)), (List.mem_of_getElem? (i := 81) (by decide +kernel)), (List.mem_of_getElem? (i := 847) (by decide +kernel)), ⟨by decide +kernel, by decide +kernel⟩, by decide +kernel, by decide⟩, (List.mem_of_getElem? (i := 846) (by decide +kernel)), (List.mem_of_getElem? (i := 23) (by decide +kernel))⟩
theorem v_2_77 : LkV 2 77 mX2_readString 0 := ⟨⟨Or.inl (List.mem_of_getElem? (i := 856) (by decide +kernel)), (List.mem_of_getElem? (i := 81) (by decide +kernel)), (List.mem_of_getElem? (i := 859) (by decide +kernel)), ⟨by decide +kernel, by decide +kernel⟩, by decide +kernel, by decide⟩, (List.mem_of_getElem? (i := 858) (by decide +kernel)), (List.mem_of_getElem? (i := 26) (by decide +kernel))⟩
theorem s_2_80 : LkS 2 80 mX8_valueOf 2 := ⟨⟨Or.inr ⟨"GraphCourier", (List.mem_of_getElem? (i := 843) (by decide +kernel))⟩, (List.mem_of_getElem? (i := 74) (by decide +kernel)), (List.mem_of_getElem? (i := 595) (by decide +kernel)), ⟨by decide +kernel, by decide +kernel⟩, by decide +kernel, by decide⟩, (List.mem_of_getElem? (i := 594) (by decide +kernel))⟩
theorem v_2_84 : LkV 2 84 mX2_readThing 3 := ⟨⟨Or.inl (List.mem_of_getElem? (i := 867) (by decide +kernel)), (List.mem_of_getElem? (i := 81) (by decide +kernel)), (List.mem_of_getElem? (i := 870) (by decide +kernel)), ⟨by decide +kernel, by decide +kernel⟩, by decide +kernel, by decide⟩, (List.mem_of_getElem? (i := 869) (by decide +kernel)), (List.mem_of_getElem? (i := 28) (by decide +kernel))⟩
theorem v_2_88 : LkV 2 88 mX2_stopAt 1 := ⟨⟨Or.inl (List.mem_of_getElem? (i := 848) (by decide +kernel)), (List.mem_of_getElem? (i := 81) (by decide +kernel)), (List.mem_of_getElem? (i := 851) (by decide +kernel)), ⟨by decide +kernel, by decide +kernel⟩, by decide +kernel, by decide⟩, (List.mem_of_getElem? (i := 850) (by decide +kernel)), (List.mem_of_getElem? (i := 24) (by decide +kernel))⟩
theorem v_2_91 : LkV 2 91 mX2_readNumber 0 := ⟨⟨Or.inl (List.mem_of_getElem? (i := 837) (by decide +kernel)), (List.mem_of_getElem? (i := 81) (by decide +kernel)), (List.mem_of_getElem? (i := 840) (by decide +kernel)), ⟨by decide +kernel, by decide +kernel⟩, by decide +kernel, by decide⟩, (List.mem_of_getElem? (i := 839) (by decide +kernel)), (List.mem_of_getElem? (i := 22) (by decide +kernel))⟩
theorem v_2_100 : LkV 2 100 mX2_readEight 0 := ⟨⟨Or.inl (List.mem_of_getElem? (i := 852) (by decide +kernel)), (List.mem_of_getElem? (i := 81) (by decide +kernel)), (List.mem_of_getElem? (i := 855) (by decide +kernel)), ⟨by decide +kernel, by decide +kernel⟩, by decide +kernel, by decide⟩, (List.mem_of_getElem? (i := 854) (by decide +kernel)), (List.mem_of_getElem? (i := 25) (by decide +kernel))⟩
theorem v_2_103 : LkV 2 103 mX2_knownThing 3 := ⟨⟨Or.inl (List.mem_of_getElem? (i := 871) (by decide +kernel)), (List.mem_of_getElem? (i := 81) (by decide +kernel)), (List.mem_of_getElem? (i := 874) (by decide +kernel)), ⟨by decide +kernel, by decide +kernel⟩, by decide +kernel, by decide⟩, (List.mem_of_getElem? (i := 873) (by decide +kernel)), (List.mem_of_getElem? (i := 29) (by decide +kernel))⟩
theorem v_2_109 : LkV 2 109 mX5_become 1 := ⟨⟨Or.inl (List.mem_of_getElem? (i := 875) (by decide +kernel)), (List.mem_of_getElem? (i := 78) (by decide +kernel)), (List.mem_of_getElem? (i := 615) (by decide +kernel)), ⟨by decide +kernel, by decide +kernel⟩, by decide +kernel, by decide⟩, (List.mem_of_getElem? (i := 613) (by decide +kernel)), (List.mem_of_getElem? (i := 614) (by decide +kernel))⟩
theorem v_2_114 : LkV 2 114 mX0_add 1 := ⟨⟨Or.inl (List.mem_of_getElem? (i := 866) (by decide +kernel)), (List.mem_of_getElem? (i := 77) (by decide +kernel)), (List.mem_of_getElem? (i := 396) (by decide +kernel)), ⟨by decide +kernel, by decide +kernel⟩, by decide +kernel, by decide⟩, (List.mem_of_getElem? (i := 394) (by decide +kernel)), (List.mem_of_getElem? (i := 395) (by decide +kernel))⟩
theorem v_2_118 : LkV 2 118 mX2_readDate 3 := ⟨⟨Or.inl (List.mem_of_getElem? (i := 876) (by decide +kernel)), (List.mem_of_getElem? (i := 81) (by decide +kernel)), (List.mem_of_getElem? (i := 879) (by decide +kernel)), ⟨by decide +kernel, by decide +kernel⟩, by decide +kernel, by decide⟩, (List.mem_of_getElem? (i := 878) (by decide +kernel)), (List.mem_of_getElem? (i := 30) (by decide +kernel))⟩
theorem v_2_122 : LkV 2 122 mX2_readBytes 3 := ⟨⟨Or.inl (List.mem_of_getElem? (i := 880) (by decide +kernel)), (List.mem_of_getElem? (i := 81) (by decide +kernel)), (List.mem_of_getElem? (i := 883) (by decide +kernel)), ⟨by decide +kernel, by decide +kernel⟩, by decide +kernel, by decide⟩, (List.mem_of_getElem? (i := 882) (by decide +kernel)), (List.mem_of_getElem? (i := 31) (by decide +kernel))⟩
theorem v_2_125 : LkV 2 125 mX2_readArray 4 := ⟨⟨Or.inl (List.mem_of_getElem? (i := 884) (by decide +kernel)), (List.mem_of_getElem? (i := 81) (by decide +kernel)), (List.mem_of_getElem? (i := 887) (by decide +kernel)), ⟨by decide +kernel, by decide +kernel⟩, by decide +kernel, by decide⟩, (List.mem_of_getElem? (i := 886) (by decide +kernel)), (List.mem_of_getElem? (i := 32) (by decide +kernel))⟩
theorem v_2_129 : LkV 2 129 mX2_readObject 4 := ⟨⟨Or.inl (List.mem_of_getElem? (i := 895) (by decide +kernel)), (List.mem_of_getElem? (i := 81) (by decide +kernel)), (List.mem_of_getElem? (i := 898) (by decide +kernel)), ⟨by decide +kernel, by decide +kernel⟩, by decide +kernel, by decide⟩, (List.mem_of_getElem? (i := 897) (by decide +kernel)), (List.mem_of_getElem? (i := 34) (by decide +kernel))⟩
theorem v_2_132 : LkV 2 132 mX0_at 1 := ⟨⟨Or.inl (List.mem_of_getElem? (i := 864) (by decide +kernel)), (List.mem_of_getElem? (i := 77) (by decide +kernel)), (List.mem_of_getElem? (i := 444) (by decide +kernel)), ⟨by decide +kernel, by decide +kernel⟩, by decide +kernel, by decide⟩, (List.mem_of_getElem? (i := 442) (by decide +kernel)), (List.mem_of_getElem? (i := 443) (by decide +kernel))⟩
theorem v_2_146 : LkV 2 146 mX2_readPairs 2 := ⟨⟨Or.inl (List.mem_of_getElem? (i := 888) (by decide +kernel)), (List.mem_of_getElem? (i := 81) (by decide +kernel)), (List.mem_of_getElem? (i := 891) (by decide +kernel)), ⟨by decide +kernel, by decide +kernel⟩, by decide +kernel, by decide⟩, (List.mem_of_getElem? (i := 890) (by decide +kernel)), (List.mem_of_getElem? (i := 33) (by decide +kernel))⟩
theorem v_2_150 : LkV 2 150 mX2_readValue 1 := ⟨⟨Or.inl (List.mem_of_getElem? (i := 894) (by decide +kernel)), (List.mem_of_getElem? (i := 81) (by decide +kernel)), (List.mem_of_getElem? (i := 826) (by decide +kernel)), ⟨by decide +kernel, by decide +kernel⟩, by decide +kernel, by decide⟩, (List.mem_of_getElem? (i := 825) (by decide +kernel)), (List.mem_of_getElem? (i := 19) (by decide +kernel))⟩
theorem v_2_153 : LkV 2 153 mX2_readTraits 2 := ⟨⟨Or.inl (List.mem_of_getElem? (i := 899) (by decide +kernel)), (List.mem_of_getElem? (i := 81) (by decide +kernel)), (List.mem_of_getElem? (i := 902) (by decide +kernel)), ⟨by decide +kernel, by decide +kernel⟩, by decide +kernel, by decide⟩, (List.mem_of_getElem? (i := 901) (by decide +kernel)), (List.mem_of_getElem? (i := 35) (by decide +kernel))⟩
theorem v_2_157 : LkV 2 157 mX4_giveTraits 2 := ⟨⟨Or.inl (List.mem_of_getElem? (i := 913) (by decide +kernel)), (List.mem_of_getElem? (i := 75) (by decide +kernel)), (List.mem_of_getElem? (i := 687) (by decide +kernel)), ⟨by decide +kernel, by decide +kernel⟩, by decide +kernel, by decide⟩, (List.mem_of_getElem? (i := 685) (by decide +kernel)), (List.mem_of_getElem? (i := 686) (by decide +kernel))⟩
theorem v_2_163 : LkV 2 163 mX0_replace 2 := ⟨⟨Or.inl (List.mem_of_getElem? (i := 914) (by decide +kernel)), (List.mem_of_getElem? (i := 77) (by decide +kernel)), (List.mem_of_getElem? (i := 711) (by decide +kernel)), ⟨by decide +kernel, by decide +kernel⟩, by decide +kernel, by decide⟩, (List.mem_of_getElem? (i := 709) (by decide +kernel)), (List.mem_of_getElem? (i := 710) (by decide +kernel))⟩
theorem v_2_167 : LkV 2 167 mX4_canHavePairs 1 := ⟨⟨Or.inl (List.mem_of_getElem? (i := 915) (by decide +kernel)), (List.mem_of_getElem? (i := 75) (by decide +kernel)), (List.mem_of_getElem? (i := 726) (by decide +kernel)), ⟨by decide +kernel, by decide +kernel⟩, by decide +kernel, by decide⟩, (List.mem_of_getElem? (i := 724) (by decide +kernel)), (List.mem_of_getElem? (i := 725) (by decide +kernel))⟩
theorem v_2_171 : LkV 2 171 mX2_knownTraits 2 := ⟨⟨Or.inl (List.mem_of_getElem? (i := 903) (by decide +kernel)), (List.mem_of_getElem? (i := 81) (by decide +kernel)), (List.mem_of_getElem? (i := 906) (by decide +kernel)), ⟨by decide +kernel, by decide +kernel⟩, by decide +kernel, by decide⟩, (List.mem_of_getElem? (i := 905) (by decide +kernel)), (List.mem_of_getElem? (i := 36) (by decide +kernel))⟩
theorem v_2_174 : LkV 2 174 mX0_has 1 := ⟨⟨Or.inl (List.mem_of_getElem? (i := 892) (by decide +kernel)), (List.mem_of_getElem? (i := 77) (by decide +kernel)), (List.mem_of_getElem? (i := 384) (by decide +kernel)), ⟨by decide +kernel, by decide +kernel⟩, by decide +kernel, by decide⟩, (List.mem_of_getElem? (i := 382) (by decide +kernel)), (List.mem_of_getElem? (i := 383) (by decide +kernel))⟩
theorem v_2_181 : LkV 2 181 mX6_become 2 := ⟨⟨Or.inl (List.mem_of_getElem? (i := 907) (by decide +kernel)), (List.mem_of_getElem? (i := 76) (by decide +kernel)), (List.mem_of_getElem? (i := 663) (by decide +kernel)), ⟨by decide +kernel, by decide +kernel⟩, by decide +kernel, by decide⟩, (List.mem_of_getElem? (i := 661) (by decide +kernel)), (List.mem_of_getElem? (i := 662) (by decide +kernel))⟩
theorem v_2_189 : LkV 2 189 mX2_keepDraft 1 := ⟨⟨Or.inl (List.mem_of_getElem? (i := 908) (by decide +kernel)), (List.mem_of_getElem? (i := 81) (by decide +kernel)), (List.mem_of_getElem? (i := 911) (by decide +kernel)), ⟨by decide +kernel, by decide +kernel⟩, by decide +kernel, by decide⟩, (List.mem_of_getElem? (i := 910) (by decide +kernel)), (List.mem_of_getElem? (i := 37) (by decide +kernel))⟩
theorem v_2_193 : LkV 2 193 mX4_placeOfDraft 1 := ⟨⟨Or.inl (List.mem_of_getElem? (i := 912) (by decide +kernel)), (List.mem_of_getElem? (i := 75) (by decide +kernel)), (List.mem_of_getElem? (i := 671) (by decide +kernel)), ⟨by decide +kernel, by decide +kernel⟩, by decide +kernel, by decide⟩, (List.mem_of_getElem? (i := 669) (by decide +kernel)), (List.mem_of_getElem? (i := 670) (by decide +kernel))⟩
theorem v_2_199 : LkV 2 199 mX4_isMember 2 := ⟨⟨Or.inl (List.mem_of_getElem? (i := 893) (by decide +kernel)), (List.mem_of_getElem? (i := 75) (by decide +kernel)), (List.mem_of_getElem? (i := 730) (by decide +kernel)), ⟨by decide +kernel, by decide +kernel⟩, by decide +kernel, by decide⟩, (List.mem_of_getElem? (i := 728) (by decide +kernel)), (List.mem_of_getElem? (i := 729) (by decide +kernel))⟩
theorem v_2_206 : LkV 2 206 mX2_knownText 2 := ⟨⟨Or.inl (List.mem_of_getElem? (i := 860) (by decide +kernel)), (List.mem_of_getElem? (i := 81) (by decide +kernel)), (List.mem_of_getElem? (i := 863) (by decide +kernel)), ⟨by decide +kernel, by decide +kernel⟩, by decide +kernel, by decide⟩, (List.mem_of_getElem? (i := 862) (by decide +kernel)), (List.mem_of_getElem? (i := 27) (by decide +kernel))⟩
theorem s_4_39 : LkS 4 39 mX8_kindOf 1 := ⟨⟨Or.inr ⟨"GraphCourier", (List.mem_of_getElem? (i := 470) (by decide +kernel))⟩, (List.mem_of_getElem? (i := 74) (by decide +kernel)), (List.mem_of_getElem? (i := 472) (by decide +kernel)), ⟨by decide +kernel, by decide +kernel⟩, by decide +kernel, by decide⟩, (List.mem_of_getElem? (i := 471) (by decide +kernel))⟩
theorem s_4_43 : LkS 4 43 mX8_aboveKind 1 := ⟨⟨Or.inr ⟨"GraphCourier", (List.mem_of_getElem? (i := 474) (by decide +kernel))⟩, (List.mem_of_getElem? (i := 74) (by decide +kernel)), (List.mem_of_getElem? (i := 476) (by decide +kernel)), ⟨by decide +kernel, by decide +kernel⟩, by decide +kernel, by decide⟩, (List.mem_of_getElem? (i := 475) (by decide +kernel))⟩
theorem s_4_51 : LkS 4 51 mX8_isText 1 := ⟨⟨Or.inr ⟨"GraphCourier", (List.mem_of_getElem? (i := 479) (by decide +kernel))⟩, (List.mem_of_getElem? (i := 74) (by decide +kernel)), (List.mem_of_getElem? (i := 378) (by decide +kernel)), ⟨by decide +kernel, by decide +kernel⟩, by decide +kernel, by decide⟩, (List.mem_of_getElem? (i := 377) (by decide +kernel))⟩
theorem v_4_55 : LkV 4 55 mX4_isThing 1 := ⟨⟨Or.inl (List.mem_of_getElem? (i := 480) (by decide +kernel)), (List.mem_of_getElem? (i := 75) (by decide +kernel)), (List.mem_of_getElem? (i := 431) (by decide +kernel)), ⟨by decide +kernel, by decide +kernel⟩, by decide +kernel, by decide⟩, (List.mem_of_getElem? (i := 429) (by decide +kernel)), (List.mem_of_getElem? (i := 430) (by decide +kernel))⟩
theorem v_4_58 : LkV 4 58 mX5_become 1 := ⟨⟨Or.inl (List.mem_of_getElem? (i := 612) (by decide +kernel)), (List.mem_of_getElem? (i := 78) (by decide +kernel)), (List.mem_of_getElem? (i := 615) (by decide +kernel)), ⟨by decide +kernel, by decide +kernel⟩, by decide +kernel, by decide⟩, (List.mem_of_getElem? (i := 613) (by decide +kernel)), (List.mem_of_getElem? (i := 614) (by decide +kernel))⟩
theorem v_4_76 : LkV 4 76 mX0_add 1 := ⟨⟨Or.inl (List.mem_of_getElem? (i := 688) (by decide +kernel)), (List.mem_of_getElem? (i := 77) (by decide +kernel)), (List.mem_of_getElem? (i := 396) (by decide +kernel)), ⟨by decide +kernel, by decide +kernel⟩, by decide +kernel, by decide⟩, (List.mem_of_getElem? (i := 394) (by decide +kernel)), (List.mem_of_getElem? (i := 395) (by decide +kernel))⟩
theorem v_4_80 : LkV 4 80 mX6_isAlike 1 := ⟨⟨Or.inl (List.mem_of_getElem? (i := 672) (by decide +kernel)), (List.mem_of_getElem? (i := 76) (by decide +kernel)), (List.mem_of_getElem? (i := 675) (by decide +kernel)), ⟨by decide +kernel, by decide +kernel⟩, by decide +kernel, by decide⟩, (List.mem_of_getElem? (i := 673) (by decide +kernel)), (List.mem_of_getElem? (i := 674) (by decide +kernel))⟩
theorem v_4_91 : LkV 4 91 mX0_has 1 := ⟨⟨Or.inl (List.mem_of_getElem? (i := 731) (by decide +kernel)), (List.mem_of_getElem? (i := 77) (by decide +kernel)), (List.mem_of_getElem? (i := 384) (by decide +kernel)), ⟨by decide +kernel, by decide +kernel⟩, by decide +kernel, by decide⟩, (List.mem_of_getElem? (i := 382) (by decide +kernel)), (List.mem_of_getElem? (i := 383) (by decide +kernel))⟩
theorem v_5_37 : LkV 5 37 mX0_empty 0 := ⟨⟨Or.inl (List.mem_of_getElem? (i := 616) (by decide +kernel)), (List.mem_of_getElem? (i := 77) (by decide +kernel)), (List.mem_of_getElem? (i := 619) (by decide +kernel)), ⟨by decide +kernel, by decide +kernel⟩, by decide +kernel, by decide⟩, (List.mem_of_getElem? (i := 617) (by decide +kernel)), (List.mem_of_getElem? (i := 618) (by decide +kernel))⟩
theorem v_6_28 : LkV 6 28 mX0_empty 0 := ⟨⟨Or.inl (List.mem_of_getElem? (i := 664) (by decide +kernel)), (List.mem_of_getElem? (i := 77) (by decide +kernel)), (List.mem_of_getElem? (i := 619) (by decide +kernel)), ⟨by decide +kernel, by decide +kernel⟩, by decide +kernel, by decide⟩, (List.mem_of_getElem? (i := 617) (by decide +kernel)), (List.mem_of_getElem? (i := 618) (by decide +kernel))⟩
theorem v_6_31 : LkV 6 31 mX0_isLike 1 := ⟨⟨Or.inl (List.mem_of_getElem? (i := 676) (by decide +kernel)), (List.mem_of_getElem? (i := 77) (by decide +kernel)), (List.mem_of_getElem? (i := 509) (by decide +kernel)), ⟨by decide +kernel, by decide +kernel⟩, by decide +kernel, by decide⟩, (List.mem_of_getElem? (i := 507) (by decide +kernel)), (List.mem_of_getElem? (i := 508) (by decide +kernel))⟩
theorem v_7_34 : LkV 7 34 mX0_empty 0 := ⟨⟨Or.inl (List.mem_of_getElem? (i := 744) (by decide +kernel)), (List.mem_of_getElem? (i := 77) (by decide +kernel)), (List.mem_of_getElem? (i := 619) (by decide +kernel)), ⟨by decide +kernel, by decide +kernel⟩, by decide +kernel, by decide⟩, (List.mem_of_getElem? (i := 617) (by decide +kernel)), (List.mem_of_getElem? (i := 618) (by decide +kernel))⟩
theorem s_7_41 : LkS 7 41 mX8_kindOf 1 := ⟨⟨Or.inr ⟨"GraphCourier", (List.mem_of_getElem? (i := 749) (by decide +kernel))⟩, (List.mem_of_getElem? (i := 74) (by decide +kernel)), (List.mem_of_getElem? (i := 472) (by decide +kernel)), ⟨by decide +kernel, by decide +kernel⟩, by decide +kernel, by decide⟩, (List.mem_of_getElem? (i := 471) (by decide +kernel))⟩
theorem s_7_45 : LkS 7 45 mX8_aboveKind 1 := ⟨⟨Or.inr ⟨"GraphCourier", (List.mem_of_getElem? (i := 750) (by decide +kernel))⟩, (List.mem_of_getElem? (i := 74) (by decide +kernel)), (List.mem_of_getElem? (i := 476) (by decide +kernel)), ⟨by decide +kernel, by decide +kernel⟩, by decide +kernel, by decide⟩, (List.mem_of_getElem? (i := 475) (by decide +kernel))⟩
theorem v_7_49 : LkV 7 49 mX7_writeThing 2 := ⟨⟨Or.inl (List.mem_of_getElem? (i := 751) (by decide +kernel)), (List.mem_of_getElem? (i := 80) (by decide +kernel)), (List.mem_of_getElem? (i := 754) (by decide +kernel)), ⟨by decide +kernel, by decide +kernel⟩, by decide +kernel, by decide⟩, (List.mem_of_getElem? (i := 753) (by decide +kernel)), (List.mem_of_getElem? (i := 9) (by decide +kernel))⟩
theorem v_7_53 : LkV 7 53 mX7_writeByte 1 := ⟨⟨Or.inl (List.mem_of_getElem? (i := 755) (by decide +kernel)), (List.mem_of_getElem? (i := 80) (by decide +kernel)), (List.mem_of_getElem? (i := 758) (by decide +kernel)), ⟨by decide +kernel, by decide +kernel⟩, by decide +kernel, by decide⟩, (List.mem_of_getElem? (i := 757) (by decide +kernel)), (List.mem_of_getElem? (i := 10) (by decide +kernel))⟩
theorem v_7_57 : LkV 7 57 mX7_writeNumber 1 := ⟨⟨Or.inl (List.mem_of_getElem? (i := 762) (by decide +kernel)), (List.mem_of_getElem? (i := 80) (by decide +kernel)), (List.mem_of_getElem? (i := 765) (by decide +kernel)), ⟨by decide +kernel, by decide +kernel⟩, by decide +kernel, by decide⟩, (List.mem_of_getElem? (i := 764) (by decide +kernel)), (List.mem_of_getElem? (i := 11) (by decide +kernel))⟩
theorem v_7_66 : LkV 7 66 mX7_writeEight 1 := ⟨⟨Or.inl (List.mem_of_getElem? (i := 768) (by decide +kernel)), (List.mem_of_getElem? (i := 80) (by decide +kernel)), (List.mem_of_getElem? (i := 771) (by decide +kernel)), ⟨by decide +kernel, by decide +kernel⟩, by decide +kernel, by decide⟩, (List.mem_of_getElem? (i := 770) (by decide +kernel)), (List.mem_of_getElem? (i := 12) (by decide +kernel))⟩
theorem v_7_70 : LkV 7 70 mX7_writeString 1 := ⟨⟨Or.inl (List.mem_of_getElem? (i := 782) (by decide +kernel)), (List.mem_of_getElem? (i := 80) (by decide +kernel)), (List.mem_of_getElem? (i := 785) (by decide +kernel)), ⟨by decide +kernel, by decide +kernel⟩, by decide +kernel, by decide⟩, (List.mem_of_getElem? (i := 784) (by decide +kernel)), (List.mem_of_getElem? (i := 15) (by decide +kernel))⟩
theorem v_7_81 : LkV 7 81 mX0_placeOf 1 := ⟨⟨Or.inl (List.mem_of_getElem? (i := 761) (by decide +kernel)), (List.mem_of_getElem? (i := 77) (by decide +kernel)), (List.mem_of_getElem? (i := 388) (by decide +kernel)), ⟨by decide +kernel, by decide +kernel⟩, by decide +kernel, by decide⟩, (List.mem_of_getElem? (i := 386) (by decide +kernel)), (List.mem_of_getElem? (i := 387) (by decide +kernel))⟩
theorem v_7_87 : LkV 7 87 mX0_add 1 := ⟨⟨Or.inl (List.mem_of_getElem? (i := 767) (by decide +kernel)), (List.mem_of_getElem? (i := 77) (by decide +kernel)), (List.mem_of_getElem? (i := 396) (by decide +kernel)), ⟨by decide +kernel, by decide +kernel⟩, by decide +kernel, by decide⟩, (List.mem_of_getElem? (i := 394) (by decide +kernel)), (List.mem_of_getElem? (i := 395) (by decide +kernel))⟩
theorem v_7_97 : LkV 7 97 mX7_writeBytes 1 := ⟨⟨Or.inl (List.mem_of_getElem? (i := 773) (by decide +kernel)), (List.mem_of_getElem? (i := 80) (by decide +kernel)), (List.mem_of_getElem? (i := 776) (by decide +kernel)), ⟨by decide +kernel, by decide +kernel⟩, by decide +kernel, by decide⟩, (List.mem_of_getElem? (i := 775) (by decide +kernel)), (List.mem_of_getElem? (i := 13) (by decide +kernel))⟩
theorem v_7_102 : LkV 7 102 mX7_writePairs 2 := ⟨⟨Or.inl (List.mem_of_getElem? (i := 778) (by decide +kernel)), (List.mem_of_getElem? (i := 80) (by decide +kernel)), (List.mem_of_getElem? (i := 781) (by decide +kernel)), ⟨by decide +kernel, by decide +kernel⟩, by decide +kernel, by decide⟩, (List.mem_of_getElem? (i := 780) (by decide +kernel)), (List.mem_of_getElem? (i := 14) (by decide +kernel))⟩
theorem v_7_106 : LkV 7 106 mX7_writeItems 2 := ⟨⟨Or.inl (List.mem_of_getElem? (i := 790) (by decide +kernel)), (List.mem_of_getElem? (i := 80) (by decide +kernel)), (List.mem_of_getElem? (i := 793) (by decide +kernel)), ⟨by decide +kernel, by decide +kernel⟩, by decide +kernel, by decide⟩, (List.mem_of_getElem? (i := 792) (by decide +kernel)), (List.mem_of_getElem? (i := 16) (by decide +kernel))⟩
theorem v_7_109 : LkV 7 109 mX7_writeObject 2 := ⟨⟨Or.inl (List.mem_of_getElem? (i := 794) (by decide +kernel)), (List.mem_of_getElem? (i := 80) (by decide +kernel)), (List.mem_of_getElem? (i := 797) (by decide +kernel)), ⟨by decide +kernel, by decide +kernel⟩, by decide +kernel, by decide⟩, (List.mem_of_getElem? (i := 796) (by decide +kernel)), (List.mem_of_getElem? (i := 17) (by decide +kernel))⟩
theorem v_7_112 : LkV 7 112 mX0_at 1 := ⟨⟨Or.inl (List.mem_of_getElem? (i := 777) (by decide +kernel)), (List.mem_of_getElem? (i := 77) (by decide +kernel)), (List.mem_of_getElem? (i := 444) (by decide +kernel)), ⟨by decide +kernel, by decide +kernel⟩, by decide +kernel, by decide⟩, (List.mem_of_getElem? (i := 442) (by decide +kernel)), (List.mem_of_getElem? (i := 443) (by decide +kernel))⟩
theorem v_7_118 : LkV 7 118 mX7_writeTraits 1 := ⟨⟨Or.inl (List.mem_of_getElem? (i := 798) (by decide +kernel)), (List.mem_of_getElem? (i := 80) (by decide +kernel)), (List.mem_of_getElem? (i := 801) (by decide +kernel)), ⟨by decide +kernel, by decide +kernel⟩, by decide +kernel, by decide⟩, (List.mem_of_getElem? (i := 800) (by decide +kernel)), (List.mem_of_getElem? (i := 18) (by decide +kernel))⟩
theorem v_7_121 : LkV 7 121 mX4_canHavePairs 1 := ⟨⟨Or.inl (List.mem_of_getElem? (i := 802) (by decide +kernel)), (List.mem_of_getElem? (i := 75) (by decide +kernel)), (List.mem_of_getElem? (i := 726) (by decide +kernel)), ⟨by decide +kernel, by decide +kernel⟩, by decide +kernel, by decide⟩, (List.mem_of_getElem? (i := 724) (by decide +kernel)), (List.mem_of_getElem? (i := 725) (by decide +kernel))⟩
theorem v_7_140 : LkV 7 140 mX7_writeValue 2 := ⟨⟨Or.inl (List.mem_of_getElem? (i := 789) (by decide +kernel)), (List.mem_of_getElem? (i := 80) (by decide +kernel)), (List.mem_of_getElem? (i := 748) (by decide +kernel)), ⟨by decide +kernel, by decide +kernel⟩, by decide +kernel, by decide⟩, (List.mem_of_getElem? (i := 747) (by decide +kernel)), (List.mem_of_getElem? (i := 8) (by decide +kernel))⟩
theorem s_7_150 : LkS 7 150 mX8_textSize 1 := ⟨⟨Or.inr ⟨"GraphCourier", (List.mem_of_getElem? (i := 786) (by decide +kernel))⟩, (List.mem_of_getElem? (i := 74) (by decide +kernel)), (List.mem_of_getElem? (i := 788) (by decide +kernel)), ⟨by decide +kernel, by decide +kernel⟩, by decide +kernel, by decide⟩, (List.mem_of_getElem? (i := 787) (by decide +kernel))⟩
theorem v_10_7 : LkV 10 7 mX8_wide 1 := ⟨⟨Or.inl (List.mem_of_getElem? (i := 527) (by decide +kernel)), (List.mem_of_getElem? (i := 74) (by decide +kernel)), (List.mem_of_getElem? (i := 530) (by decide +kernel)), ⟨by decide +kernel, by decide +kernel⟩, by decide +kernel, by decide⟩, (List.mem_of_getElem? (i := 528) (by decide +kernel)), (List.mem_of_getElem? (i := 529) (by decide +kernel))⟩
theorem v_10_15 : LkV 10 15 mX8_date 1 := ⟨⟨Or.inl (List.mem_of_getElem? (i := 600) (by decide +kernel)), (List.mem_of_getElem? (i := 74) (by decide +kernel)), (List.mem_of_getElem? (i := 603) (by decide +kernel)), ⟨by decide +kernel, by decide +kernel⟩, by decide +kernel, by decide⟩, (List.mem_of_getElem? (i := 601) (by decide +kernel)), (List.mem_of_getElem? (i := 602) (by decide +kernel))⟩
theorem v_10_18 : LkV 10 18 mX8_bytes 2 := ⟨⟨Or.inl (List.mem_of_getElem? (i := 624) (by decide +kernel)), (List.mem_of_getElem? (i := 74) (by decide +kernel)), (List.mem_of_getElem? (i := 627) (by decide +kernel)), ⟨by decide +kernel, by decide +kernel⟩, by decide +kernel, by decide⟩, (List.mem_of_getElem? (i := 625) (by decide +kernel)), (List.mem_of_getElem? (i := 626) (by decide +kernel))⟩
theorem v_10_24 : LkV 10 24 mX8_array 0 := ⟨⟨Or.inl (List.mem_of_getElem? (i := 646) (by decide +kernel)), (List.mem_of_getElem? (i := 74) (by decide +kernel)), (List.mem_of_getElem? (i := 649) (by decide +kernel)), ⟨by decide +kernel, by decide +kernel⟩, by decide +kernel, by decide⟩, (List.mem_of_getElem? (i := 647) (by decide +kernel)), (List.mem_of_getElem? (i := 648) (by decide +kernel))⟩
theorem v_10_28 : LkV 10 28 mX8_traits 5 := ⟨⟨Or.inl (List.mem_of_getElem? (i := 653) (by decide +kernel)), (List.mem_of_getElem? (i := 74) (by decide +kernel)), (List.mem_of_getElem? (i := 656) (by decide +kernel)), ⟨by decide +kernel, by decide +kernel⟩, by decide +kernel, by decide⟩, (List.mem_of_getElem? (i := 654) (by decide +kernel)), (List.mem_of_getElem? (i := 655) (by decide +kernel))⟩
theorem v_10_32 : LkV 10 32 mX8_object 1 := ⟨⟨Or.inl (List.mem_of_getElem? (i := 680) (by decide +kernel)), (List.mem_of_getElem? (i := 74) (by decide +kernel)), (List.mem_of_getElem? (i := 683) (by decide +kernel)), ⟨by decide +kernel, by decide +kernel⟩, by decide +kernel, by decide⟩, (List.mem_of_getElem? (i := 681) (by decide +kernel)), (List.mem_of_getElem? (i := 682) (by decide +kernel))⟩
theorem v_10_36 : LkV 10 36 mX8_append 2 := ⟨⟨Or.inl (List.mem_of_getElem? (i := 692) (by decide +kernel)), (List.mem_of_getElem? (i := 74) (by decide +kernel)), (List.mem_of_getElem? (i := 695) (by decide +kernel)), ⟨by decide +kernel, by decide +kernel⟩, by decide +kernel, by decide⟩, (List.mem_of_getElem? (i := 693) (by decide +kernel)), (List.mem_of_getElem? (i := 694) (by decide +kernel))⟩
theorem v_10_40 : LkV 10 40 mX8_set 3 := ⟨⟨Or.inl (List.mem_of_getElem? (i := 700) (by decide +kernel)), (List.mem_of_getElem? (i := 74) (by decide +kernel)), (List.mem_of_getElem? (i := 703) (by decide +kernel)), ⟨by decide +kernel, by decide +kernel⟩, by decide +kernel, by decide⟩, (List.mem_of_getElem? (i := 701) (by decide +kernel)), (List.mem_of_getElem? (i := 702) (by decide +kernel))⟩
theorem v_10_44 : LkV 10 44 mX8_put 3 := ⟨⟨Or.inl (List.mem_of_getElem? (i := 715) (by decide +kernel)), (List.mem_of_getElem? (i := 74) (by decide +kernel)), (List.mem_of_getElem? (i := 718) (by decide +kernel)), ⟨by decide +kernel, by decide +kernel⟩, by decide +kernel, by decide⟩, (List.mem_of_getElem? (i := 716) (by decide +kernel)), (List.mem_of_getElem? (i := 717) (by decide +kernel))⟩
theorem v_10_48 : LkV 10 48 mX8_encode 1 := ⟨⟨Or.inl (List.mem_of_getElem? (i := 736) (by decide +kernel)), (List.mem_of_getElem? (i := 74) (by decide +kernel)), (List.mem_of_getElem? (i := 739) (by decide +kernel)), ⟨by decide +kernel, by decide +kernel⟩, by decide +kernel, by decide⟩, (List.mem_of_getElem? (i := 737) (by decide +kernel)), (List.mem_of_getElem? (i := 738) (by decide +kernel))⟩
theorem v_10_52 : LkV 10 52 mX8_decode 0 := ⟨⟨Or.inl (List.mem_of_getElem? (i := 814) (by decide +kernel)), (List.mem_of_getElem? (i := 74) (by decide +kernel)), (List.mem_of_getElem? (i := 817) (by decide +kernel)), ⟨by decide +kernel, by decide +kernel⟩, by decide +kernel, by decide⟩, (List.mem_of_getElem? (i := 815) (by decide +kernel)), (List.mem_of_getElem? (i := 816) (by decide +kernel))⟩
theorem v_10_66 : LkV 10 66 mX9_wide 1 := ⟨⟨Or.inl (List.mem_of_getElem? (i := 1062) (by decide +kernel)), (List.mem_of_getElem? (i := 83) (by decide +kernel)), (List.mem_of_getElem? (i := 1065) (by decide +kernel)), ⟨by decide +kernel, by decide +kernel⟩, by decide +kernel, by decide⟩, (List.mem_of_getElem? (i := 1063) (by decide +kernel)), (List.mem_of_getElem? (i := 1064) (by decide +kernel))⟩
theorem v_10_67 : LkV 10 67 mX9_thrown 0 := ⟨⟨Or.inl (List.mem_of_getElem? (i := 1058) (by decide +kernel)), (List.mem_of_getElem? (i := 83) (by decide +kernel)), (List.mem_of_getElem? (i := 1061) (by decide +kernel)), ⟨by decide +kernel, by decide +kernel⟩, by decide +kernel, by decide⟩, (List.mem_of_getElem? (i := 1059) (by decide +kernel)), (List.mem_of_getElem? (i := 1060) (by decide +kernel))⟩
theorem v_10_73 : LkV 10 73 mX9_date 1 := ⟨⟨Or.inl (List.mem_of_getElem? (i := 1072) (by decide +kernel)), (List.mem_of_getElem? (i := 83) (by decide +kernel)), (List.mem_of_getElem? (i := 1075) (by decide +kernel)), ⟨by decide +kernel, by decide +kernel⟩, by decide +kernel, by decide⟩, (List.mem_of_getElem? (i := 1073) (by decide +kernel)), (List.mem_of_getElem? (i := 1074) (by decide +kernel))⟩
theorem v_10_77 : LkV 10 77 mX9_bytes 2 := ⟨⟨Or.inl (List.mem_of_getElem? (i := 1085) (by decide +kernel)), (List.mem_of_getElem? (i := 83) (by decide +kernel)), (List.mem_of_getElem? (i := 1088) (by decide +kernel)), ⟨by decide +kernel, by decide +kernel⟩, by decide +kernel, by decide⟩, (List.mem_of_getElem? (i := 1086) (by decide +kernel)), (List.mem_of_getElem? (i := 1087) (by decide +kernel))⟩
theorem v_10_81 : LkV 10 81 mX9_array 0 := ⟨⟨Or.inl (List.mem_of_getElem? (i := 1089) (by decide +kernel)), (List.mem_of_getElem? (i := 83) (by decide +kernel)), (List.mem_of_getElem? (i := 1092) (by decide +kernel)), ⟨by decide +kernel, by decide +kernel⟩, by decide +kernel, by decide⟩, (List.mem_of_getElem? (i := 1090) (by decide +kernel)), (List.mem_of_getElem? (i := 1091) (by decide +kernel))⟩
theorem v_10_85 : LkV 10 85 mX9_traits 5 := ⟨⟨Or.inl (List.mem_of_getElem? (i := 1093) (by decide +kernel)), (List.mem_of_getElem? (i := 83) (by decide +kernel)), (List.mem_of_getElem? (i := 1096) (by decide +kernel)), ⟨by decide +kernel, by decide +kernel⟩, by decide +kernel, by decide⟩, (List.mem_of_getElem? (i := 1094) (by decide +kernel)), (List.mem_of_getElem? (i := 1095) (by decide +kernel))⟩
theorem v_10_89 : LkV 10 89 mX9_object 1 := ⟨⟨Or.inl (List.mem_of_getElem? (i := 1113) (by decide +kernel)), (List.mem_of_getElem? (i := 83) (by decide +kernel)), (List.mem_of_getElem? (i := 1116) (by decide +kernel)), ⟨by decide +kernel, by decide +kernel⟩, by decide +kernel, by decide⟩, (List.mem_of_getElem? (i := 1114) (by decide +kernel)), (List.mem_of_getElem? (i := 1115) (by decide +kernel))⟩
theorem v_10_93 : LkV 10 93 mX9_append 2 := ⟨⟨Or.inl (List.mem_of_getElem? (i := 1117) (by decide +kernel)), (List.mem_of_getElem? (i := 83) (by decide +kernel)), (List.mem_of_getElem? (i := 1120) (by decide +kernel)), ⟨by decide +kernel, by decide +kernel⟩, by decide +kernel, by decide⟩, (List.mem_of_getElem? (i := 1118) (by decide +kernel)), (List.mem_of_getElem? (i := 1119) (by decide +kernel))⟩
theorem v_10_97 : LkV 10 97 mX9_set 3 := ⟨⟨Or.inl (List.mem_of_getElem? (i := 1132) (by decide +kernel)), (List.mem_of_getElem? (i := 83) (by decide +kernel)), (List.mem_of_getElem? (i := 1135) (by decide +kernel)), ⟨by decide +kernel, by decide +kernel⟩, by decide +kernel, by decide⟩, (List.mem_of_getElem? (i := 1133) (by decide +kernel)), (List.mem_of_getElem? (i := 1134) (by decide +kernel))⟩
theorem v_10_101 : LkV 10 101 mX9_put 3 := ⟨⟨Or.inl (List.mem_of_getElem? (i := 1140) (by decide +kernel)), (List.mem_of_getElem? (i := 83) (by decide +kernel)), (List.mem_of_getElem? (i := 1143) (by decide +kernel)), ⟨by decide +kernel, by decide +kernel⟩, by decide +kernel, by decide⟩, (List.mem_of_getElem? (i := 1141) (by decide +kernel)), (List.mem_of_getElem? (i := 1142) (by decide +kernel))⟩
theorem v_10_102 : LkV 10 102 mX8_allow 1 := ⟨⟨Or.inl (List.mem_of_getElem? (i := 372) (by decide +kernel)), (List.mem_of_getElem? (i := 74) (by decide +kernel)), (List.mem_of_getElem? (i := 375) (by decide +kernel)), ⟨by decide +kernel, by decide +kernel⟩, by decide +kernel, by decide⟩, (List.mem_of_getElem? (i := 373) (by decide +kernel)), (List.mem_of_getElem? (i := 374) (by decide +kernel))⟩
theorem v_10_106 : LkV 10 106 mX9_allow 1 := ⟨⟨Or.inl (List.mem_of_getElem? (i := 1156) (by decide +kernel)), (List.mem_of_getElem? (i := 83) (by decide +kernel)), (List.mem_of_getElem? (i := 1159) (by decide +kernel)), ⟨by decide +kernel, by decide +kernel⟩, by decide +kernel, by decide⟩, (List.mem_of_getElem? (i := 1157) (by decide +kernel)), (List.mem_of_getElem? (i := 1158) (by decide +kernel))⟩
theorem v_10_109 : LkV 10 109 mX9_encode 1 := ⟨⟨Or.inl (List.mem_of_getElem? (i := 1164) (by decide +kernel)), (List.mem_of_getElem? (i := 83) (by decide +kernel)), (List.mem_of_getElem? (i := 1167) (by decide +kernel)), ⟨by decide +kernel, by decide +kernel⟩, by decide +kernel, by decide⟩, (List.mem_of_getElem? (i := 1165) (by decide +kernel)), (List.mem_of_getElem? (i := 1166) (by decide +kernel))⟩
theorem v_10_112 : LkV 10 112 mX9_decode 0 := ⟨⟨Or.inl (List.mem_of_getElem? (i := 1212) (by decide +kernel)), (List.mem_of_getElem? (i := 83) (by decide +kernel)), (List.mem_of_getElem? (i := 1215) (by decide +kernel)), ⟨by decide +kernel, by decide +kernel⟩, by decide +kernel, by decide⟩, (List.mem_of_getElem? (i := 1213) (by decide +kernel)), (List.mem_of_getElem? (i := 1214) (by decide +kernel))⟩
theorem v_10_113 : LkV 10 113 mX8_fault 0 := ⟨⟨Or.inl (List.mem_of_getElem? (i := 397) (by decide +kernel)), (List.mem_of_getElem? (i := 74) (by decide +kernel)), (List.mem_of_getElem? (i := 400) (by decide +kernel)), ⟨by decide +kernel, by decide +kernel⟩, by decide +kernel, by decide⟩, (List.mem_of_getElem? (i := 398) (by decide +kernel)), (List.mem_of_getElem? (i := 399) (by decide +kernel))⟩
theorem v_10_116 : LkV 10 116 mX9_fault 0 := ⟨⟨Or.inl (List.mem_of_getElem? (i := 1264) (by decide +kernel)), (List.mem_of_getElem? (i := 83) (by decide +kernel)), (List.mem_of_getElem? (i := 1267) (by decide +kernel)), ⟨by decide +kernel, by decide +kernel⟩, by decide +kernel, by decide⟩, (List.mem_of_getElem? (i := 1265) (by decide +kernel)), (List.mem_of_getElem? (i := 1266) (by decide +kernel))⟩
theorem v_10_117 : LkV 10 117 mX8_size 0 := ⟨⟨Or.inl (List.mem_of_getElem? (i := 401) (by decide +kernel)), (List.mem_of_getElem? (i := 74) (by decide +kernel)), (List.mem_of_getElem? (i := 404) (by decide +kernel)), ⟨by decide +kernel, by decide +kernel⟩, by decide +kernel, by decide⟩, (List.mem_of_getElem? (i := 402) (by decide +kernel)), (List.mem_of_getElem? (i := 403) (by decide +kernel))⟩
theorem v_10_120 : LkV 10 120 mX9_size 0 := ⟨⟨Or.inl (List.mem_of_getElem? (i := 1268) (by decide +kernel)), (List.mem_of_getElem? (i := 83) (by decide +kernel)), (List.mem_of_getElem? (i := 1271) (by decide +kernel)), ⟨by decide +kernel, by decide +kernel⟩, by decide +kernel, by decide⟩, (List.mem_of_getElem? (i := 1269) (by decide +kernel)), (List.mem_of_getElem? (i := 1270) (by decide +kernel))⟩
theorem v_10_121 : LkV 10 121 mX8_byteAt 1 := ⟨⟨Or.inl (List.mem_of_getElem? (i := 405) (by decide +kernel)), (List.mem_of_getElem? (i := 74) (by decide +kernel)), (List.mem_of_getElem? (i := 408) (by decide +kernel)), ⟨by decide +kernel, by decide +kernel⟩, by decide +kernel, by decide⟩, (List.mem_of_getElem? (i := 406) (by decide +kernel)), (List.mem_of_getElem? (i := 407) (by decide +kernel))⟩
theorem v_10_125 : LkV 10 125 mX9_byteAt 1 := ⟨⟨Or.inl (List.mem_of_getElem? (i := 1272) (by decide +kernel)), (List.mem_of_getElem? (i := 83) (by decide +kernel)), (List.mem_of_getElem? (i := 1275) (by decide +kernel)), ⟨by decide +kernel, by decide +kernel⟩, by decide +kernel, by decide⟩, (List.mem_of_getElem? (i := 1273) (by decide +kernel)), (List.mem_of_getElem? (i := 1274) (by decide +kernel))⟩
theorem v_10_126 : LkV 10 126 mX8_alter 2 := ⟨⟨Or.inl (List.mem_of_getElem? (i := 409) (by decide +kernel)), (List.mem_of_getElem? (i := 74) (by decide +kernel)), (List.mem_of_getElem? (i := 412) (by decide +kernel)), ⟨by decide +kernel, by decide +kernel⟩, by decide +kernel, by decide⟩, (List.mem_of_getElem? (i := 410) (by decide +kernel)), (List.mem_of_getElem? (i := 411) (by decide +kernel))⟩
theorem v_10_130 : LkV 10 130 mX9_alter 2 := ⟨⟨Or.inl (List.mem_of_getElem? (i := 1276) (by decide +kernel)), (List.mem_of_getElem? (i := 83) (by decide +kernel)), (List.mem_of_getElem? (i := 1279) (by decide +kernel)), ⟨by decide +kernel, by decide +kernel⟩, by decide +kernel, by decide⟩, (List.mem_of_getElem? (i := 1277) (by decide +kernel)), (List.mem_of_getElem? (i := 1278) (by decide +kernel))⟩
theorem v_10_131 : LkV 10 131 mX8_cut 1 := ⟨⟨Or.inl (List.mem_of_getElem? (i := 416) (by decide +kernel)), (List.mem_of_getElem? (i := 74) (by decide +kernel)), (List.mem_of_getElem? (i := 419) (by decide +kernel)), ⟨by decide +kernel, by decide +kernel⟩, by decide +kernel, by decide⟩, (List.mem_of_getElem? (i := 417) (by decide +kernel)), (List.mem_of_getElem? (i := 418) (by decide +kernel))⟩
theorem v_10_135 : LkV 10 135 mX9_cut 1 := ⟨⟨Or.inl (List.mem_of_getElem? (i := 1280) (by decide +kernel)), (List.mem_of_getElem? (i := 83) (by decide +kernel)), (List.mem_of_getElem? (i := 1283) (by decide +kernel)), ⟨by decide +kernel, by decide +kernel⟩, by decide +kernel, by decide⟩, (List.mem_of_getElem? (i := 1281) (by decide +kernel)), (List.mem_of_getElem? (i := 1282) (by decide +kernel))⟩
theorem v_10_136 : LkV 10 136 mX8_things 0 := ⟨⟨Or.inl (List.mem_of_getElem? (i := 420) (by decide +kernel)), (List.mem_of_getElem? (i := 74) (by decide +kernel)), (List.mem_of_getElem? (i := 423) (by decide +kernel)), ⟨by decide +kernel, by decide +kernel⟩, by decide +kernel, by decide⟩, (List.mem_of_getElem? (i := 421) (by decide +kernel)), (List.mem_of_getElem? (i := 422) (by decide +kernel))⟩
theorem v_10_139 : LkV 10 139 mX9_things 0 := ⟨⟨Or.inl (List.mem_of_getElem? (i := 1284) (by decide +kernel)), (List.mem_of_getElem? (i := 83) (by decide +kernel)), (List.mem_of_getElem? (i := 1287) (by decide +kernel)), ⟨by decide +kernel, by decide +kernel⟩, by decide +kernel, by decide⟩, (List.mem_of_getElem? (i := 1285) (by decide +kernel)), (List.mem_of_getElem? (i := 1286) (by decide +kernel))⟩
theorem v_10_140 : LkV 10 140 mX8_kind 1 := ⟨⟨Or.inl (List.mem_of_getElem? (i := 424) (by decide +kernel)), (List.mem_of_getElem? (i := 74) (by decide +kernel)), (List.mem_of_getElem? (i := 427) (by decide +kernel)), ⟨by decide +kernel, by decide +kernel⟩, by decide +kernel, by decide⟩, (List.mem_of_getElem? (i := 425) (by decide +kernel)), (List.mem_of_getElem? (i := 426) (by decide +kernel))⟩
theorem v_10_143 : LkV 10 143 mX9_kind 1 := ⟨⟨Or.inl (List.mem_of_getElem? (i := 1288) (by decide +kernel)), (List.mem_of_getElem? (i := 83) (by decide +kernel)), (List.mem_of_getElem? (i := 1291) (by decide +kernel)), ⟨by decide +kernel, by decide +kernel⟩, by decide +kernel, by decide⟩, (List.mem_of_getElem? (i := 1289) (by decide +kernel)), (List.mem_of_getElem? (i := 1290) (by decide +kernel))⟩
theorem v_10_144 : LkV 10 144 mX8_count 1 := ⟨⟨Or.inl (List.mem_of_getElem? (i := 432) (by decide +kernel)), (List.mem_of_getElem? (i := 74) (by decide +kernel)), (List.mem_of_getElem? (i := 435) (by decide +kernel)), ⟨by decide +kernel, by decide +kernel⟩, by decide +kernel, by decide⟩, (List.mem_of_getElem? (i := 433) (by decide +kernel)), (List.mem_of_getElem? (i := 434) (by decide +kernel))⟩
theorem v_10_147 : LkV 10 147 mX9_count 1 := ⟨⟨Or.inl (List.mem_of_getElem? (i := 1292) (by decide +kernel)), (List.mem_of_getElem? (i := 83) (by decide +kernel)), (List.mem_of_getElem? (i := 1295) (by decide +kernel)), ⟨by decide +kernel, by decide +kernel⟩, by decide +kernel, by decide⟩, (List.mem_of_getElem? (i := 1293) (by decide +kernel)), (List.mem_of_getElem? (i := 1294) (by decide +kernel))⟩
theorem v_10_148 : LkV 10 148 mX8_item 2 := ⟨⟨Or.inl (List.mem_of_getElem? (i := 436) (by decide +kernel)), (List.mem_of_getElem? (i := 74) (by decide +kernel)), (List.mem_of_getElem? (i := 439) (by decide +kernel)), ⟨by decide +kernel, by decide +kernel⟩, by decide +kernel, by decide⟩, (List.mem_of_getElem? (i := 437) (by decide +kernel)), (List.mem_of_getElem? (i := 438) (by decide +kernel))⟩
theorem v_10_152 : LkV 10 152 mX9_item 2 := ⟨⟨Or.inl (List.mem_of_getElem? (i := 1296) (by decide +kernel)), (List.mem_of_getElem? (i := 83) (by decide +kernel)), (List.mem_of_getElem? (i := 1299) (by decide +kernel)), ⟨by decide +kernel, by decide +kernel⟩, by decide +kernel, by decide⟩, (List.mem_of_getElem? (i := 1297) (by decide +kernel)), (List.mem_of_getElem? (i := 1298) (by decide +kernel))⟩
theorem v_10_153 : LkV 10 153 mX8_pairs 1 := ⟨⟨Or.inl (List.mem_of_getElem? (i := 446) (by decide +kernel)), (List.mem_of_getElem? (i := 74) (by decide +kernel)), (List.mem_of_getElem? (i := 449) (by decide +kernel)), ⟨by decide +kernel, by decide +kernel⟩, by decide +kernel, by decide⟩, (List.mem_of_getElem? (i := 447) (by decide +kernel)), (List.mem_of_getElem? (i := 448) (by decide +kernel))⟩
theorem v_10_156 : LkV 10 156 mX9_pairs 1 := ⟨⟨Or.inl (List.mem_of_getElem? (i := 1301) (by decide +kernel)), (List.mem_of_getElem? (i := 83) (by decide +kernel)), (List.mem_of_getElem? (i := 1304) (by decide +kernel)), ⟨by decide +kernel, by decide +kernel⟩, by decide +kernel, by decide⟩, (List.mem_of_getElem? (i := 1302) (by decide +kernel)), (List.mem_of_getElem? (i := 1303) (by decide +kernel))⟩
theorem v_10_157 : LkV 10 157 mX8_pair 3 := ⟨⟨Or.inl (List.mem_of_getElem? (i := 450) (by decide +kernel)), (List.mem_of_getElem? (i := 74) (by decide +kernel)), (List.mem_of_getElem? (i := 453) (by decide +kernel)), ⟨by decide +kernel, by decide +kernel⟩, by decide +kernel, by decide⟩, (List.mem_of_getElem? (i := 451) (by decide +kernel)), (List.mem_of_getElem? (i := 452) (by decide +kernel))⟩
theorem v_10_161 : LkV 10 161 mX9_pair 3 := ⟨⟨Or.inl (List.mem_of_getElem? (i := 1305) (by decide +kernel)), (List.mem_of_getElem? (i := 83) (by decide +kernel)), (List.mem_of_getElem? (i := 1308) (by decide +kernel)), ⟨by decide +kernel, by decide +kernel⟩, by decide +kernel, by decide⟩, (List.mem_of_getElem? (i := 1306) (by decide +kernel)), (List.mem_of_getElem? (i := 1307) (by decide +kernel))⟩
theorem v_10_162 : LkV 10 162 mX8_traitsOf 1 := ⟨⟨Or.inl (List.mem_of_getElem? (i := 454) (by decide +kernel)), (List.mem_of_getElem? (i := 74) (by decide +kernel)), (List.mem_of_getElem? (i := 457) (by decide +kernel)), ⟨by decide +kernel, by decide +kernel⟩, by decide +kernel, by decide⟩, (List.mem_of_getElem? (i := 455) (by decide +kernel)), (List.mem_of_getElem? (i := 456) (by decide +kernel))⟩
theorem v_10_165 : LkV 10 165 mX9_traitsOf 1 := ⟨⟨Or.inl (List.mem_of_getElem? (i := 1309) (by decide +kernel)), (List.mem_of_getElem? (i := 83) (by decide +kernel)), (List.mem_of_getElem? (i := 1312) (by decide +kernel)), ⟨by decide +kernel, by decide +kernel⟩, by decide +kernel, by decide⟩, (List.mem_of_getElem? (i := 1310) (by decide +kernel)), (List.mem_of_getElem? (i := 1311) (by decide +kernel))⟩
theorem v_10_166 : LkV 10 166 mX8_bits 1 := ⟨⟨Or.inl (List.mem_of_getElem? (i := 458) (by decide +kernel)), (List.mem_of_getElem? (i := 74) (by decide +kernel)), (List.mem_of_getElem? (i := 461) (by decide +kernel)), ⟨by decide +kernel, by decide +kernel⟩, by decide +kernel, by decide⟩, (List.mem_of_getElem? (i := 459) (by decide +kernel)), (List.mem_of_getElem? (i := 460) (by decide +kernel))⟩
theorem v_10_169 : LkV 10 169 mX9_bits 1 := ⟨⟨Or.inl (List.mem_of_getElem? (i := 1313) (by decide +kernel)), (List.mem_of_getElem? (i := 83) (by decide +kernel)), (List.mem_of_getElem? (i := 1316) (by decide +kernel)), ⟨by decide +kernel, by decide +kernel⟩, by decide +kernel, by decide⟩, (List.mem_of_getElem? (i := 1314) (by decide +kernel)), (List.mem_of_getElem? (i := 1315) (by decide +kernel))⟩
theorem v_10_170 : LkV 10 170 mX8_same 2 := ⟨⟨Or.inl (List.mem_of_getElem? (i := 462) (by decide +kernel)), (List.mem_of_getElem? (i := 74) (by decide +kernel)), (List.mem_of_getElem? (i := 465) (by decide +kernel)), ⟨by decide +kernel, by decide +kernel⟩, by decide +kernel, by decide⟩, (List.mem_of_getElem? (i := 463) (by decide +kernel)), (List.mem_of_getElem? (i := 464) (by decide +kernel))⟩
theorem v_10_174 : LkV 10 174 mX9_same 2 := ⟨⟨Or.inl (List.mem_of_getElem? (i := 1317) (by decide +kernel)), (List.mem_of_getElem? (i := 83) (by decide +kernel)), (List.mem_of_getElem? (i := 1320) (by decide +kernel)), ⟨by decide +kernel, by decide +kernel⟩, by decide +kernel, by decide⟩, (List.mem_of_getElem? (i := 1318) (by decide +kernel)), (List.mem_of_getElem? (i := 1319) (by decide +kernel))⟩
theorem v_10_175 : LkV 10 175 mX8_clear 0 := ⟨⟨Or.inl (List.mem_of_getElem? (i := 515) (by decide +kernel)), (List.mem_of_getElem? (i := 74) (by decide +kernel)), (List.mem_of_getElem? (i := 518) (by decide +kernel)), ⟨by decide +kernel, by decide +kernel⟩, by decide +kernel, by decide⟩, (List.mem_of_getElem? (i := 516) (by decide +kernel)), (List.mem_of_getElem? (i := 517) (by decide +kernel))⟩
theorem v_10_178 : LkV 10 178 mX9_clear 0 := ⟨⟨Or.inl (List.mem_of_getElem? (i := 1329) (by decide +kernel)), (List.mem_of_getElem? (i := 83) (by decide +kernel)), (List.mem_of_getElem? (i := 1332) (by decide +kernel)), ⟨by decide +kernel, by decide +kernel⟩, by decide +kernel, by decide⟩, (List.mem_of_getElem? (i := 1330) (by decide +kernel)), (List.mem_of_getElem? (i := 1331) (by decide +kernel))⟩
theorem s_9_100 : LkS 9 100 mX9_letters 1 := ⟨⟨Or.inl (List.mem_of_getElem? (i := 1100) (by decide +kernel)), (List.mem_of_getElem? (i := 83) (by decide +kernel)), (List.mem_of_getElem? (i := 1102) (by decide +kernel)), ⟨by decide +kernel, by decide +kernel⟩, by decide +kernel, by decide⟩, (List.mem_of_getElem? (i := 1101) (by decide +kernel))⟩
theorem s_9_117 : LkS 9 117 mX9_isText 1 := ⟨⟨Or.inl (List.mem_of_getElem? (i := 1097) (by decide +kernel)), (List.mem_of_getElem? (i := 83) (by decide +kernel)), (List.mem_of_getElem? (i := 1099) (by decide +kernel)), ⟨by decide +kernel, by decide +kernel⟩, by decide +kernel, by decide⟩, (List.mem_of_getElem? (i := 1098) (by decide +kernel))⟩
theorem v_9_124 : LkV 9 124 mX9_newWide 1 := ⟨⟨Or.inl (List.mem_of_getElem? (i := 1066) (by decide +kernel)), (List.mem_of_getElem? (i := 83) (by decide +kernel)), (List.mem_of_getElem? (i := 1069) (by decide +kernel)), ⟨by decide +kernel, by decide +kernel⟩, by decide +kernel, by decide⟩, (List.mem_of_getElem? (i := 1068) (by decide +kernel)), (List.mem_of_getElem? (i := 38) (by decide +kernel))⟩
theorem v_9_134 : LkV 9 134 mX9_newThing 4 := ⟨⟨Or.inl (List.mem_of_getElem? (i := 1076) (by decide +kernel)), (List.mem_of_getElem? (i := 83) (by decide +kernel)), (List.mem_of_getElem? (i := 1079) (by decide +kernel)), ⟨by decide +kernel, by decide +kernel⟩, by decide +kernel, by decide⟩, (List.mem_of_getElem? (i := 1078) (by decide +kernel)), (List.mem_of_getElem? (i := 39) (by decide +kernel))⟩
theorem v_9_138 : LkV 9 138 mX9_valueOf 1 := ⟨⟨Or.inl (List.mem_of_getElem? (i := 1080) (by decide +kernel)), (List.mem_of_getElem? (i := 83) (by decide +kernel)), (List.mem_of_getElem? (i := 1083) (by decide +kernel)), ⟨by decide +kernel, by decide +kernel⟩, by decide +kernel, by decide⟩, (List.mem_of_getElem? (i := 1082) (by decide +kernel)), (List.mem_of_getElem? (i := 40) (by decide +kernel))⟩
theorem v_9_145 : LkV 9 145 mX9_alike 6 := ⟨⟨Or.inl (List.mem_of_getElem? (i := 1105) (by decide +kernel)), (List.mem_of_getElem? (i := 83) (by decide +kernel)), (List.mem_of_getElem? (i := 1108) (by decide +kernel)), ⟨by decide +kernel, by decide +kernel⟩, by decide +kernel, by decide⟩, (List.mem_of_getElem? (i := 1107) (by decide +kernel)), (List.mem_of_getElem? (i := 41) (by decide +kernel))⟩
theorem v_9_149 : LkV 9 149 mX9_newTraits 6 := ⟨⟨Or.inl (List.mem_of_getElem? (i := 1109) (by decide +kernel)), (List.mem_of_getElem? (i := 83) (by decide +kernel)), (List.mem_of_getElem? (i := 1112) (by decide +kernel)), ⟨by decide +kernel, by decide +kernel⟩, by decide +kernel, by decide⟩, (List.mem_of_getElem? (i := 1111) (by decide +kernel)), (List.mem_of_getElem? (i := 42) (by decide +kernel))⟩
theorem v_9_152 : LkV 9 152 mX9_isThing 1 := ⟨⟨Or.inl (List.mem_of_getElem? (i := 1121) (by decide +kernel)), (List.mem_of_getElem? (i := 83) (by decide +kernel)), (List.mem_of_getElem? (i := 1124) (by decide +kernel)), ⟨by decide +kernel, by decide +kernel⟩, by decide +kernel, by decide⟩, (List.mem_of_getElem? (i := 1123) (by decide +kernel)), (List.mem_of_getElem? (i := 43) (by decide +kernel))⟩
theorem v_9_156 : LkV 9 156 mX9_isValue 1 := ⟨⟨Or.inl (List.mem_of_getElem? (i := 1125) (by decide +kernel)), (List.mem_of_getElem? (i := 83) (by decide +kernel)), (List.mem_of_getElem? (i := 1128) (by decide +kernel)), ⟨by decide +kernel, by decide +kernel⟩, by decide +kernel, by decide⟩, (List.mem_of_getElem? (i := 1127) (by decide +kernel)), (List.mem_of_getElem? (i := 44) (by decide +kernel))⟩
theorem v_9_159 : LkV 9 159 mX9_hasItems 1 := ⟨⟨Or.inl (List.mem_of_getElem? (i := 1136) (by decide +kernel)), (List.mem_of_getElem? (i := 83) (by decide +kernel)), (List.mem_of_getElem? (i := 1139) (by decide +kernel)), ⟨by decide +kernel, by decide +kernel⟩, by decide +kernel, by decide⟩, (List.mem_of_getElem? (i := 1138) (by decide +kernel)), (List.mem_of_getElem? (i := 45) (by decide +kernel))⟩
theorem v_9_162 : LkV 9 162 mX9_hasPairs 1 := ⟨⟨Or.inl (List.mem_of_getElem? (i := 1144) (by decide +kernel)), (List.mem_of_getElem? (i := 83) (by decide +kernel)), (List.mem_of_getElem? (i := 1147) (by decide +kernel)), ⟨by decide +kernel, by decide +kernel⟩, by decide +kernel, by decide⟩, (List.mem_of_getElem? (i := 1146) (by decide +kernel)), (List.mem_of_getElem? (i := 46) (by decide +kernel))⟩
theorem v_9_165 : LkV 9 165 mX9_isMember 2 := ⟨⟨Or.inl (List.mem_of_getElem? (i := 1148) (by decide +kernel)), (List.mem_of_getElem? (i := 83) (by decide +kernel)), (List.mem_of_getElem? (i := 1151) (by decide +kernel)), ⟨by decide +kernel, by decide +kernel⟩, by decide +kernel, by decide⟩, (List.mem_of_getElem? (i := 1150) (by decide +kernel)), (List.mem_of_getElem? (i := 47) (by decide +kernel))⟩
theorem v_9_169 : LkV 9 169 mX9_pairAt 2 := ⟨⟨Or.inl (List.mem_of_getElem? (i := 1152) (by decide +kernel)), (List.mem_of_getElem? (i := 83) (by decide +kernel)), (List.mem_of_getElem? (i := 1155) (by decide +kernel)), ⟨by decide +kernel, by decide +kernel⟩, by decide +kernel, by decide⟩, (List.mem_of_getElem? (i := 1154) (by decide +kernel)), (List.mem_of_getElem? (i := 48) (by decide +kernel))⟩
theorem v_9_173 : LkV 9 173 mX9_isAllowed 1 := ⟨⟨Or.inl (List.mem_of_getElem? (i := 1160) (by decide +kernel)), (List.mem_of_getElem? (i := 83) (by decide +kernel)), (List.mem_of_getElem? (i := 1163) (by decide +kernel)), ⟨by decide +kernel, by decide +kernel⟩, by decide +kernel, by decide⟩, (List.mem_of_getElem? (i := 1162) (by decide +kernel)), (List.mem_of_getElem? (i := 49) (by decide +kernel))⟩
theorem v_9_183 : LkV 9 183 mX9_emit 1 := ⟨⟨Or.inl (List.mem_of_getElem? (i := 1176) (by decide +kernel)), (List.mem_of_getElem? (i := 83) (by decide +kernel)), (List.mem_of_getElem? (i := 1179) (by decide +kernel)), ⟨by decide +kernel, by decide +kernel⟩, by decide +kernel, by decide⟩, (List.mem_of_getElem? (i := 1178) (by decide +kernel)), (List.mem_of_getElem? (i := 52) (by decide +kernel))⟩
theorem v_9_190 : LkV 9 190 mX9_emitNumber 1 := ⟨⟨Or.inl (List.mem_of_getElem? (i := 1181) (by decide +kernel)), (List.mem_of_getElem? (i := 83) (by decide +kernel)), (List.mem_of_getElem? (i := 1184) (by decide +kernel)), ⟨by decide +kernel, by decide +kernel⟩, by decide +kernel, by decide⟩, (List.mem_of_getElem? (i := 1183) (by decide +kernel)), (List.mem_of_getElem? (i := 53) (by decide +kernel))⟩
theorem v_9_201 : LkV 9 201 mX9_emitEight 1 := ⟨⟨Or.inl (List.mem_of_getElem? (i := 1188) (by decide +kernel)), (List.mem_of_getElem? (i := 83) (by decide +kernel)), (List.mem_of_getElem? (i := 1191) (by decide +kernel)), ⟨by decide +kernel, by decide +kernel⟩, by decide +kernel, by decide⟩, (List.mem_of_getElem? (i := 1190) (by decide +kernel)), (List.mem_of_getElem? (i := 54) (by decide +kernel))⟩
theorem v_9_205 : LkV 9 205 mX9_emitString 1 := ⟨⟨Or.inl (List.mem_of_getElem? (i := 1192) (by decide +kernel)), (List.mem_of_getElem? (i := 83) (by decide +kernel)), (List.mem_of_getElem? (i := 1195) (by decide +kernel)), ⟨by decide +kernel, by decide +kernel⟩, by decide +kernel, by decide⟩, (List.mem_of_getElem? (i := 1194) (by decide +kernel)), (List.mem_of_getElem? (i := 55) (by decide +kernel))⟩
theorem v_9_208 : LkV 9 208 mX9_emitThing 1 := ⟨⟨Or.inl (List.mem_of_getElem? (i := 1196) (by decide +kernel)), (List.mem_of_getElem? (i := 83) (by decide +kernel)), (List.mem_of_getElem? (i := 1199) (by decide +kernel)), ⟨by decide +kernel, by decide +kernel⟩, by decide +kernel, by decide⟩, (List.mem_of_getElem? (i := 1198) (by decide +kernel)), (List.mem_of_getElem? (i := 56) (by decide +kernel))⟩
theorem v_9_214 : LkV 9 214 mX9_push 1 := ⟨⟨Or.inl (List.mem_of_getElem? (i := 1200) (by decide +kernel)), (List.mem_of_getElem? (i := 83) (by decide +kernel)), (List.mem_of_getElem? (i := 1203) (by decide +kernel)), ⟨by decide +kernel, by decide +kernel⟩, by decide +kernel, by decide⟩, (List.mem_of_getElem? (i := 1202) (by decide +kernel)), (List.mem_of_getElem? (i := 57) (by decide +kernel))⟩
theorem v_9_217 : LkV 9 217 mX9_emitTraits 1 := ⟨⟨Or.inl (List.mem_of_getElem? (i := 1204) (by decide +kernel)), (List.mem_of_getElem? (i := 83) (by decide +kernel)), (List.mem_of_getElem? (i := 1207) (by decide +kernel)), ⟨by decide +kernel, by decide +kernel⟩, by decide +kernel, by decide⟩, (List.mem_of_getElem? (i := 1206) (by decide +kernel)), (List.mem_of_getElem? (i := 58) (by decide +kernel))⟩
theorem v_9_223 : LkV 9 223 mX9_emitValue 1 := ⟨⟨Or.inl (List.mem_of_getElem? (i := 1172) (by decide +kernel)), (List.mem_of_getElem? (i := 83) (by decide +kernel)), (List.mem_of_getElem? (i := 1175) (by decide +kernel)), ⟨by decide +kernel, by decide +kernel⟩, by decide +kernel, by decide⟩, (List.mem_of_getElem? (i := 1174) (by decide +kernel)), (List.mem_of_getElem? (i := 51) (by decide +kernel))⟩
theorem v_9_226 : LkV 9 226 mX9_clearLists 0 := ⟨⟨Or.inl (List.mem_of_getElem? (i := 1168) (by decide +kernel)), (List.mem_of_getElem? (i := 83) (by decide +kernel)), (List.mem_of_getElem? (i := 1171) (by decide +kernel)), ⟨by decide +kernel, by decide +kernel⟩, by decide +kernel, by decide⟩, (List.mem_of_getElem? (i := 1170) (by decide +kernel)), (List.mem_of_getElem? (i := 50) (by decide +kernel))⟩
theorem v_9_229 : LkV 9 229 mX9_goOn 0 := ⟨⟨Or.inl (List.mem_of_getElem? (i := 1208) (by decide +kernel)), (List.mem_of_getElem? (i := 83) (by decide +kernel)), (List.mem_of_getElem? (i := 1211) (by decide +kernel)), ⟨by decide +kernel, by decide +kernel⟩, by decide +kernel, by decide⟩, (List.mem_of_getElem? (i := 1210) (by decide +kernel)), (List.mem_of_getElem? (i := 59) (by decide +kernel))⟩
theorem v_9_238 : LkV 9 238 mX9_goes 0 := ⟨⟨Or.inl (List.mem_of_getElem? (i := 1224) (by decide +kernel)), (List.mem_of_getElem? (i := 83) (by decide +kernel)), (List.mem_of_getElem? (i := 1227) (by decide +kernel)), ⟨by decide +kernel, by decide +kernel⟩, by decide +kernel, by decide⟩, (List.mem_of_getElem? (i := 1226) (by decide +kernel)), (List.mem_of_getElem? (i := 62) (by decide +kernel))⟩
theorem v_9_245 : LkV 9 245 mX9_stopAt 1 := ⟨⟨Or.inl (List.mem_of_getElem? (i := 1228) (by decide +kernel)), (List.mem_of_getElem? (i := 83) (by decide +kernel)), (List.mem_of_getElem? (i := 1231) (by decide +kernel)), ⟨by decide +kernel, by decide +kernel⟩, by decide +kernel, by decide⟩, (List.mem_of_getElem? (i := 1230) (by decide +kernel)), (List.mem_of_getElem? (i := 63) (by decide +kernel))⟩
theorem v_9_248 : LkV 9 248 mX9_take 0 := ⟨⟨Or.inl (List.mem_of_getElem? (i := 1220) (by decide +kernel)), (List.mem_of_getElem? (i := 83) (by decide +kernel)), (List.mem_of_getElem? (i := 1223) (by decide +kernel)), ⟨by decide +kernel, by decide +kernel⟩, by decide +kernel, by decide⟩, (List.mem_of_getElem? (i := 1222) (by decide +kernel)), (List.mem_of_getElem? (i := 61) (by decide +kernel))⟩
theorem v_9_252 : LkV 9 252 mX9_takeNumber 0 := ⟨⟨Or.inl (List.mem_of_getElem? (i := 1232) (by decide +kernel)), (List.mem_of_getElem? (i := 83) (by decide +kernel)), (List.mem_of_getElem? (i := 1235) (by decide +kernel)), ⟨by decide +kernel, by decide +kernel⟩, by decide +kernel, by decide⟩, (List.mem_of_getElem? (i := 1234) (by decide +kernel)), (List.mem_of_getElem? (i := 64) (by decide +kernel))⟩
theorem v_9_263 : LkV 9 263 mX9_takeEight 0 := ⟨⟨Or.inl (List.mem_of_getElem? (i := 1239) (by decide +kernel)), (List.mem_of_getElem? (i := 83) (by decide +kernel)), (List.mem_of_getElem? (i := 1242) (by decide +kernel)), ⟨by decide +kernel, by decide +kernel⟩, by decide +kernel, by decide⟩, (List.mem_of_getElem? (i := 1241) (by decide +kernel)), (List.mem_of_getElem? (i := 65) (by decide +kernel))⟩
theorem v_9_267 : LkV 9 267 mX9_takeString 0 := ⟨⟨Or.inl (List.mem_of_getElem? (i := 1243) (by decide +kernel)), (List.mem_of_getElem? (i := 83) (by decide +kernel)), (List.mem_of_getElem? (i := 1246) (by decide +kernel)), ⟨by decide +kernel, by decide +kernel⟩, by decide +kernel, by decide⟩, (List.mem_of_getElem? (i := 1245) (by decide +kernel)), (List.mem_of_getElem? (i := 66) (by decide +kernel))⟩
theorem v_9_272 : LkV 9 272 mX9_takeThing 2 := ⟨⟨Or.inl (List.mem_of_getElem? (i := 1248) (by decide +kernel)), (List.mem_of_getElem? (i := 83) (by decide +kernel)), (List.mem_of_getElem? (i := 1251) (by decide +kernel)), ⟨by decide +kernel, by decide +kernel⟩, by decide +kernel, by decide⟩, (List.mem_of_getElem? (i := 1250) (by decide +kernel)), (List.mem_of_getElem? (i := 67) (by decide +kernel))⟩
theorem v_9_276 : LkV 9 276 mX9_takeTraits 2 := ⟨⟨Or.inl (List.mem_of_getElem? (i := 1252) (by decide +kernel)), (List.mem_of_getElem? (i := 83) (by decide +kernel)), (List.mem_of_getElem? (i := 1255) (by decide +kernel)), ⟨by decide +kernel, by decide +kernel⟩, by decide +kernel, by decide⟩, (List.mem_of_getElem? (i := 1254) (by decide +kernel)), (List.mem_of_getElem? (i := 68) (by decide +kernel))⟩
theorem v_9_280 : LkV 9 280 mX9_takeValue 0 := ⟨⟨Or.inl (List.mem_of_getElem? (i := 1216) (by decide +kernel)), (List.mem_of_getElem? (i := 83) (by decide +kernel)), (List.mem_of_getElem? (i := 1219) (by decide +kernel)), ⟨by decide +kernel, by decide +kernel⟩, by decide +kernel, by decide⟩, (List.mem_of_getElem? (i := 1218) (by decide +kernel)), (List.mem_of_getElem? (i := 60) (by decide +kernel))⟩
theorem v_9_283 : LkV 9 283 mX9_give 2 := ⟨⟨Or.inl (List.mem_of_getElem? (i := 1260) (by decide +kernel)), (List.mem_of_getElem? (i := 83) (by decide +kernel)), (List.mem_of_getElem? (i := 1263) (by decide +kernel)), ⟨by decide +kernel, by decide +kernel⟩, by decide +kernel, by decide⟩, (List.mem_of_getElem? (i := 1262) (by decide +kernel)), (List.mem_of_getElem? (i := 70) (by decide +kernel))⟩
theorem v_9_287 : LkV 9 287 mX9_readOn 0 := ⟨⟨Or.inl (List.mem_of_getElem? (i := 1256) (by decide +kernel)), (List.mem_of_getElem? (i := 83) (by decide +kernel)), (List.mem_of_getElem? (i := 1259) (by decide +kernel)), ⟨by decide +kernel, by decide +kernel⟩, by decide +kernel, by decide⟩, (List.mem_of_getElem? (i := 1258) (by decide +kernel)), (List.mem_of_getElem? (i := 69) (by decide +kernel))⟩
theorem v_9_295 : LkV 9 295 mX9_areSame 2 := ⟨⟨Or.inl (List.mem_of_getElem? (i := 1321) (by decide +kernel)), (List.mem_of_getElem? (i := 83) (by decide +kernel)), (List.mem_of_getElem? (i := 1324) (by decide +kernel)), ⟨by decide +kernel, by decide +kernel⟩, by decide +kernel, by decide⟩, (List.mem_of_getElem? (i := 1323) (by decide +kernel)), (List.mem_of_getElem? (i := 71) (by decide +kernel))⟩
theorem v_9_299 : LkV 9 299 mX9_areAlike 2 := ⟨⟨Or.inl (List.mem_of_getElem? (i := 1325) (by decide +kernel)), (List.mem_of_getElem? (i := 83) (by decide +kernel)), (List.mem_of_getElem? (i := 1328) (by decide +kernel)), ⟨by decide +kernel, by decide +kernel⟩, by decide +kernel, by decide⟩, (List.mem_of_getElem? (i := 1327) (by decide +kernel)), (List.mem_of_getElem? (i := 72) (by decide +kernel))⟩
theorem k_8_95 : Cond.constantLong (cnm 8) 95 (255) ∈ lw_tbl := (List.mem_of_getElem? (i := 379) (by decide +kernel))
theorem k_8_215 : Cond.constantLong (cnm 8) 215 (-1) ∈ lw_tbl := (List.mem_of_getElem? (i := 440) (by decide +kernel))
theorem k_8_242 : Cond.constantLong (cnm 8) 242 (126) ∈ lw_tbl := (List.mem_of_getElem? (i := 380) (by decide +kernel))
theorem k_8_244 : Cond.constantLong (cnm 8) 244 (16) ∈ lw_tbl := (List.mem_of_getElem? (i := 596) (by decide +kernel))
theorem k_8_246 : Cond.constantLong (cnm 8) 246 (15) ∈ lw_tbl := (List.mem_of_getElem? (i := 473) (by decide +kernel))
theorem k_0_19 : Cond.constantLong (cnm 0) 19 (-1) ∈ lw_tbl := (List.mem_of_getElem? (i := 445) (by decide +kernel))
theorem k_2_94 : Cond.constant (cnm 2) 94 (268435456) ∈ lw_tbl := (List.mem_of_getElem? (i := 841) (by decide +kernel))
theorem k_2_95 : Cond.constant (cnm 2) 95 (536870912) ∈ lw_tbl := (List.mem_of_getElem? (i := 842) (by decide +kernel))
theorem k_2_134 : Cond.constantLong (cnm 2) 134 (-1) ∈ lw_tbl := (List.mem_of_getElem? (i := 865) (by decide +kernel))
theorem k_4_47 : Cond.constantLong (cnm 4) 47 (-268435456) ∈ lw_tbl := (List.mem_of_getElem? (i := 477) (by decide +kernel))
theorem k_4_49 : Cond.constantLong (cnm 4) 49 (268435456) ∈ lw_tbl := (List.mem_of_getElem? (i := 478) (by decide +kernel))
theorem k_7_56 : Cond.constant (cnm 7) 56 (536870911) ∈ lw_tbl := (List.mem_of_getElem? (i := 803) (by decide +kernel))
theorem k_7_153 : Cond.constantLong (cnm 7) 153 (255) ∈ lw_tbl := (List.mem_of_getElem? (i := 772) (by decide +kernel))
theorem k_7_155 : Cond.constant (cnm 7) 155 (2097152) ∈ lw_tbl := (List.mem_of_getElem? (i := 766) (by decide +kernel))
theorem k_10_59 : Cond.constantLong (cnm 10) 59 (4294967295) ∈ lw_tbl := (List.mem_of_getElem? (i := 1333) (by decide +kernel))
theorem k_9_104 : Cond.constantLong (cnm 9) 104 (255) ∈ lw_tbl := (List.mem_of_getElem? (i := 1103) (by decide +kernel))
theorem k_9_106 : Cond.constantLong (cnm 9) 106 (126) ∈ lw_tbl := (List.mem_of_getElem? (i := 1104) (by decide +kernel))
theorem k_9_108 : Cond.constantLong (cnm 9) 108 (15) ∈ lw_tbl := (List.mem_of_getElem? (i := 1129) (by decide +kernel))
theorem k_9_110 : Cond.constantLong (cnm 9) 110 (-268435456) ∈ lw_tbl := (List.mem_of_getElem? (i := 1130) (by decide +kernel))
theorem k_9_112 : Cond.constantLong (cnm 9) 112 (268435455) ∈ lw_tbl := (List.mem_of_getElem? (i := 1131) (by decide +kernel))
theorem k_9_128 : Cond.constantLong (cnm 9) 128 (16) ∈ lw_tbl := (List.mem_of_getElem? (i := 1070) (by decide +kernel))
theorem k_9_130 : Cond.constantLong (cnm 9) 130 (5) ∈ lw_tbl := (List.mem_of_getElem? (i := 1071) (by decide +kernel))
theorem k_9_132 : Cond.constantLong (cnm 9) 132 (7) ∈ lw_tbl := (List.mem_of_getElem? (i := 1084) (by decide +kernel))
theorem k_9_187 : Cond.constant (cnm 9) 187 (2097152) ∈ lw_tbl := (List.mem_of_getElem? (i := 1185) (by decide +kernel))
theorem k_9_188 : Cond.constant (cnm 9) 188 (4194304) ∈ lw_tbl := (List.mem_of_getElem? (i := 1186) (by decide +kernel))
theorem k_9_189 : Cond.constant (cnm 9) 189 (32768) ∈ lw_tbl := (List.mem_of_getElem? (i := 1187) (by decide +kernel))
theorem k_9_199 : Cond.constantLong (cnm 9) 199 (536870912) ∈ lw_tbl := (List.mem_of_getElem? (i := 1180) (by decide +kernel))
theorem k_9_259 : Cond.constant (cnm 9) 259 (268435456) ∈ lw_tbl := (List.mem_of_getElem? (i := 1236) (by decide +kernel))
theorem k_9_260 : Cond.constant (cnm 9) 260 (536870912) ∈ lw_tbl := (List.mem_of_getElem? (i := 1237) (by decide +kernel))
theorem k_9_261 : Cond.constantLong (cnm 9) 261 (4) ∈ lw_tbl := (List.mem_of_getElem? (i := 1238) (by decide +kernel))
theorem k_9_270 : Cond.constantLong (cnm 9) 270 (6) ∈ lw_tbl := (List.mem_of_getElem? (i := 1247) (by decide +kernel))
theorem k_9_290 : Cond.constantLong (cnm 9) 290 (-1) ∈ lw_tbl := (List.mem_of_getElem? (i := 1300) (by decide +kernel))
set_option maxRecDepth 20000 in
theorem th_2_213_215 : ThL 2 213 215 "java/lang/IllegalArgumentException" := ⟨(List.mem_of_getElem? (i := 831) (by decide +kernel)), (List.mem_of_getElem? (i := 88) (by decide +kernel)), by decide +kernel, by decide +kernel, by decide +kernel, by decide +kernel⟩
set_option maxRecDepth 20000 in
theorem th_7_84_86 : ThL 7 84 86 "java/lang/IllegalStateException" := ⟨(List.mem_of_getElem? (i := 759) (by decide +kernel)), (List.mem_of_getElem? (i := 87) (by decide +kernel)), by decide +kernel, by decide +kernel, by decide +kernel, by decide +kernel⟩
set_option maxRecDepth 20000 in
theorem th_8_61_63 : ThL 8 61 63 "java/lang/IllegalStateException" := ⟨(List.mem_of_getElem? (i := 531) (by decide +kernel)), (List.mem_of_getElem? (i := 87) (by decide +kernel)), by decide +kernel, by decide +kernel, by decide +kernel, by decide +kernel⟩
set_option maxRecDepth 20000 in
theorem th_8_89_91 : ThL 8 89 91 "java/lang/IllegalArgumentException" := ⟨(List.mem_of_getElem? (i := 628) (by decide +kernel)), (List.mem_of_getElem? (i := 88) (by decide +kernel)), by decide +kernel, by decide +kernel, by decide +kernel, by decide +kernel⟩
end
section
section XE
variable {G : Gd} {y : Mt} {d kf : Nat} {Z : Zt} {k pc n t : Nat} {lv lv' : List (Nat × Value)} {st : List Value} {M M' : Mm} {idx ci j : Nat} {q q' : Ky} {o : Oc}
theorem x_getI (hi : tget (yT y) pc = some (.getfield idx, n, t)) (hn : pc + 3 = n) (hf : FLk (yC y) idx ci j) (hs : shp q.1 = some (.inl ci)) (hc : q.2 < cnt q.1) (ht : ftyp ci j = .int) (kk : Fr G y d kf Z k n lv (.int (M.1 q j) :: st) M) : Fr G y d kf Z k pc lv (.ref (ga G q) :: st) M :=
  x_get hi hn hf hs hc (by rw [ht]; rfl) kk
theorem x_getZ (hi : tget (yT y) pc = some (.getfield idx, n, t)) (hn : pc + 3 = n) (hf : FLk (yC y) idx ci j) (hs : shp q.1 = some (.inl ci)) (hc : q.2 < cnt q.1) (ht : ftyp ci j = .boolean) (kk : Fr G y d kf Z k n lv (.int (M.1 q j) :: st) M) : Fr G y d kf Z k pc lv (.ref (ga G q) :: st) M :=
  x_get hi hn hf hs hc (by rw [ht]; rfl) kk
theorem x_getL (hi : tget (yT y) pc = some (.getfield idx, n, t)) (hn : pc + 3 = n) (hf : FLk (yC y) idx ci j) (hs : shp q.1 = some (.inl ci)) (hc : q.2 < cnt q.1) (ht : ftyp ci j = .long) (kk : Fr G y d kf Z k n lv (.long (M.2 q j) :: st) M) : Fr G y d kf Z k pc lv (.ref (ga G q) :: st) M :=
  x_get hi hn hf hs hc (by rw [ht]; rfl) kk
def isRfT (ty : FieldType) : Bool := match ty with | .array _ => true | .object _ => true | _ => false
theorem cval_rf {ty : FieldType} (h : isRfT ty = true) : cval G M q ty j = rv G (rf q j) := by
  cases ty <;> first | rfl | cases h
theorem x_getR (hi : tget (yT y) pc = some (.getfield idx, n, t)) (hn : pc + 3 = n) (hf : FLk (yC y) idx ci j) (hs : shp q.1 = some (.inl ci)) (hc : q.2 < cnt q.1) (ht : isRfT (ftyp ci j) = true) (hr : rf q j = some q') (kk : Fr G y d kf Z k n lv (.ref (ga G q') :: st) M) : Fr G y d kf Z k pc lv (.ref (ga G q) :: st) M :=
  x_get hi hn hf hs hc (by rw [cval_rf ht, hr]; rfl) kk
theorem x_getRi {r i r' : Nat} (hi : tget (yT y) pc = some (.getfield idx, n, t)) (hn : pc + 3 = n) (hf : FLk (yC y) idx ci j) (hs : shp r = some (.inl ci)) (hc : i < cnt r) (ht : isRfT (ftyp ci j) = true) (hr : rf (r, i) j = some (r', i)) (kk : Fr G y d kf Z k n lv (.ref (ga G (r', i)) :: st) M) : Fr G y d kf Z k pc lv (.ref (ga G (r, i)) :: st) M :=
  x_getR hi hn hf hs hc ht hr kk
theorem x_getR0 {r i r' : Nat} (hi : tget (yT y) pc = some (.getfield idx, n, t)) (hn : pc + 3 = n) (hf : FLk (yC y) idx ci j) (hs : shp r = some (.inl ci)) (hc : i < cnt r) (ht : isRfT (ftyp ci j) = true) (hr : rf (r, i) j = some (r', 0)) (kk : Fr G y d kf Z k n lv (.ref (ga G (r', 0)) :: st) M) : Fr G y d kf Z k pc lv (.ref (ga G (r, i)) :: st) M :=
  x_getR hi hn hf hs hc ht hr kk
def nofin (ci j : Nat) : Bool := match vwCl[ci]? with | some q => !(q.2.1 j).2.2.2 | none => false
theorem nofin_of (h : nofin ci j = true) : ∀ (Cn : String) (T : u_T) (N : Nat), vwCl[ci]? = some (Cn, T, N) → (T j).2.2.2 = false := by
  intro Cn T N e
  unfold nofin at h
  rw [e] at h
  simpa using h
theorem x_putI {x : Int32} (hi : tget (yT y) pc = some (.putfield idx, n, t)) (hn : pc + 3 = n) (hf : FLk (yC y) idx ci j) (hfin : nofin ci j = true) (hs : shp q.1 = some (.inl ci)) (hc : q.2 < cnt q.1) (ht : ftyp ci j = .int) (kk : Fr G y d kf Z k n lv st (ui M q j x)) : Fr G y d kf Z k pc lv (.int x :: .ref (ga G q) :: st) M :=
  x_put hi hn hf (nofin_of hfin) hs hc (by rw [ht]; exact trivial) (by rw [ht]; exact vp_nar_int x) (by rw [ht]; rfl) kk
theorem x_putZ {x : Int32} (hi : tget (yT y) pc = some (.putfield idx, n, t)) (hn : pc + 3 = n) (hf : FLk (yC y) idx ci j) (hfin : nofin ci j = true) (hs : shp q.1 = some (.inl ci)) (hc : q.2 < cnt q.1) (ht : ftyp ci j = .boolean) (hx : x = 0 ∨ x = 1) (kk : Fr G y d kf Z k n lv st (ui M q j x)) : Fr G y d kf Z k pc lv (.int x :: .ref (ga G q) :: st) M :=
  x_put hi hn hf (nofin_of hfin) hs hc (by rw [ht]; exact trivial) (by rw [ht]; rcases hx with rfl | rfl <;> decide +kernel) (by rw [ht]; rcases hx with rfl | rfl <;> decide +kernel) kk
theorem x_putL {x : Int64} (hi : tget (yT y) pc = some (.putfield idx, n, t)) (hn : pc + 3 = n) (hf : FLk (yC y) idx ci j) (hfin : nofin ci j = true) (hs : shp q.1 = some (.inl ci)) (hc : q.2 < cnt q.1) (ht : ftyp ci j = .long) (kk : Fr G y d kf Z k n lv st (ul M q j x)) : Fr G y d kf Z k pc lv (.long x :: .ref (ga G q) :: st) M :=
  x_put hi hn hf (nofin_of hfin) hs hc (by rw [ht]; exact trivial) (by rw [ht]; rfl) (by rw [ht]; rfl) kk
theorem x_retI {v : Int32} (hi : tget (yT y) pc = some (.ireturn, n, t)) (hn : pc + 1 = n) (hr : yR y = some .int) (hk : k ≤ kf) (ho : o = .inl (some (.int v))) (hM : M' = M) : Fr G y d kf (Zm G o M' kf) k pc lv [.int v] M := by
  subst ho; subst hM
  exact x_iret hi hn hr hk
theorem x_retZ {v : Int32} (hi : tget (yT y) pc = some (.ireturn, n, t)) (hn : pc + 1 = n) (hr : yR y = some .boolean) (hv : v = 0 ∨ v = 1) (hk : k ≤ kf) (ho : o = .inl (some (.int v))) (hM : M' = M) : Fr G y d kf (Zm G o M' kf) k pc lv [.int v] M := by
  subst ho; subst hM
  exact x_zret hi hn hr (by rcases hv with rfl | rfl <;> decide +kernel) hk
theorem x_retL {v : Int64} (hi : tget (yT y) pc = some (.lreturn, n, t)) (hn : pc + 1 = n) (hr : yR y = some .long) (hk : k ≤ kf) (ho : o = .inl (some (.long v))) (hM : M' = M) : Fr G y d kf (Zm G o M' kf) k pc lv [.long v] M := by
  subst ho; subst hM
  exact x_lret hi hn hr hk
theorem x_retV (hi : tget (yT y) pc = some (.return_, n, t)) (hn : pc + 1 = n) (hr : yR y = none) (hk : k ≤ kf) (ho : o = .inl none) (hM : M' = M) : Fr G y d kf (Zm G o M' kf) k pc lv [] M := by
  subst ho; subst hM
  exact x_vret hi hn hr hk
/-- the machine's state by other words for the same -/
theorem x_eq {lv2 : List (Nat × Value)} {st2 : List Value} {M2 : Mm} (h : Fr G y d kf Z k pc lv2 st2 M2) (h1 : lv = lv2) (h2 : st = st2) (h3 : M = M2) : Fr G y d kf Z k pc lv st M := by
  subst h1; subst h2; subst h3; exact h
theorem x_getIv {v : Int32} (hv : M.1 q j = v) (hi : tget (yT y) pc = some (.getfield idx, n, t)) (hn : pc + 3 = n) (hf : FLk (yC y) idx ci j) (hs : shp q.1 = some (.inl ci)) (hc : q.2 < cnt q.1) (ht : ftyp ci j = .int) (kk : Fr G y d kf Z k n lv (.int v :: st) M) : Fr G y d kf Z k pc lv (.ref (ga G q) :: st) M :=
  x_getI hi hn hf hs hc ht (by rw [hv]; exact kk)
theorem x_getZv {v : Int32} (hv : M.1 q j = v) (hi : tget (yT y) pc = some (.getfield idx, n, t)) (hn : pc + 3 = n) (hf : FLk (yC y) idx ci j) (hs : shp q.1 = some (.inl ci)) (hc : q.2 < cnt q.1) (ht : ftyp ci j = .boolean) (kk : Fr G y d kf Z k n lv (.int v :: st) M) : Fr G y d kf Z k pc lv (.ref (ga G q) :: st) M :=
  x_getZ hi hn hf hs hc ht (by rw [hv]; exact kk)
theorem x_getLv {v : Int64} (hv : M.2 q j = v) (hi : tget (yT y) pc = some (.getfield idx, n, t)) (hn : pc + 3 = n) (hf : FLk (yC y) idx ci j) (hs : shp q.1 = some (.inl ci)) (hc : q.2 < cnt q.1) (ht : ftyp ci j = .long) (kk : Fr G y d kf Z k n lv (.long v :: st) M) : Fr G y d kf Z k pc lv (.ref (ga G q) :: st) M :=
  x_getL hi hn hf hs hc ht (by rw [hv]; exact kk)
theorem x_ialdv {v : Int32} {L a : Nat} (hv : M.1 q a = v) (hi : tget (yT y) pc = some (.iaload, n, t)) (hn : pc + 1 = n) (hs : shp q.1 = some (.inr (0, L))) (hc : q.2 < cnt q.1) (hin : a < L) (hL2 : L < 2 ^ 31) (kk : Fr G y d kf Z k n lv (.int v :: st) M) : Fr G y d kf Z k pc lv (.int (nI a) :: .ref (ga G q) :: st) M :=
  x_iald hi hn hs hc hin hL2 (by rw [hv]; exact kk)
theorem x_zaldv {v : Int32} {L a : Nat} (hv : M.1 q a = v) (hi : tget (yT y) pc = some (.baload, n, t)) (hn : pc + 1 = n) (hs : shp q.1 = some (.inr (2, L))) (hc : q.2 < cnt q.1) (hin : a < L) (hL2 : L < 2 ^ 31) (kk : Fr G y d kf Z k n lv (.int v :: st) M) : Fr G y d kf Z k pc lv (.int (nI a) :: .ref (ga G q) :: st) M :=
  x_zald hi hn hs hc hin hL2 (by rw [hv]; exact kk)
theorem x_laldv {v : Int64} {L a : Nat} (hv : M.2 q a = v) (hi : tget (yT y) pc = some (.laload, n, t)) (hn : pc + 1 = n) (hs : shp q.1 = some (.inr (1, L))) (hc : q.2 < cnt q.1) (hin : a < L) (hL2 : L < 2 ^ 31) (kk : Fr G y d kf Z k n lv (.long v :: st) M) : Fr G y d kf Z k pc lv (.int (nI a) :: .ref (ga G q) :: st) M :=
  x_lald hi hn hs hc hin hL2 (by rw [hv]; exact kk)
/-- a value by another word for it -/
theorem x_topI {x v : Int32} (h : x = v) (kk : Fr G y d kf Z k pc lv (.int v :: st) M) : Fr G y d kf Z k pc lv (.int x :: st) M := by rw [h]; exact kk
theorem x_topL {x v : Int64} (h : x = v) (kk : Fr G y d kf Z k pc lv (.long v :: st) M) : Fr G y d kf Z k pc lv (.long x :: st) M := by rw [h]; exact kk
theorem x_zast {L a : Nat} {x : Int32} (hi : tget (yT y) pc = some (.bastore, n, t)) (hn : pc + 1 = n) (hs : shp q.1 = some (.inr (2, L))) (hc : q.2 < cnt q.1) (hin : a < L) (hL2 : L < 2 ^ 31) (hx01 : x = 0 ∨ x = 1) (kk : Fr G y d kf Z k n lv st (ui M q a x)) : Fr G y d kf Z k pc lv (.int x :: .int (nI a) :: .ref (ga G q) :: st) M := by
  intro p e R s m args below meth c H locs ls C hx hH hL
  obtain ⟨hg, hok, ha, hb, hret, hlk, hml, hown, hwm, -⟩ := id C
  have hd := (hok.get hi).1
  subst hn
  rw [Nat.add_sub_cancel_left] at hd
  have h1 : H[ga G q]? = some (arrV (gk G 2) L (fun j => cval G M q (aty 2) j)) := hH.1.1 q _ hs hc
  have hvi : vp_in (nI a) L := vp_in_nI hin hL2
  have hcl : (nI a).toNatClampNeg = a := nI_clamp (by omega)
  refine W.zast ha hb h1 (arrOk (t := 2) (by decide) hg hwm L _) (fun z => by cases z) (by rw [arrV_size]; exact hvi) rfl rfl hd fun H1 e1 e2 e3 => ?_
  rw [hcl] at e1 ⊢
  have e1' : H1[ga G q]? = some ((arrV (gk G 2) L (fun j => cval G M q (aty 2) j)).setSlot a (.int x)) := by
    rw [e1]
    rcases hx01 with rfl | rfl <;> rfl
  exact kk p e R s m args below meth c H1 _ ls C hx (hH.stored (v := .int x) hg hs hc e3 e2 (cells_arr (by exact trivial) e1')) hL
theorem x_aaldi {r r' tt L a : Nat} {i : Nat} (hi : tget (yT y) pc = some (.aaload, n, t)) (hn : pc + 1 = n) (hs : shp r = some (.inr (tt, L))) (htt : tt = 3 ∨ tt = 4) (hc : i < cnt r) (hin : a < L) (hL2 : L < 2 ^ 31) (hr : rf (r, i) a = some (r', a)) (kk : Fr G y d kf Z k n lv (.ref (ga G (r', a)) :: st) M) : Fr G y d kf Z k pc lv (.int (nI a) :: .ref (ga G (r, i)) :: st) M :=
  x_aald hi hn hs htt hc hin hL2 hr kk
theorem x_callVi {y2 : Mt} {d2 k2 np : Nat} {u : u_T × Nat} {As rest : List Value} {v : Int32} {M2 : Mm} (hC : Ct G y2 d2 (.ref (ga G q) :: As) M (.inl (some (.int v))) M2 k2) (hi : tget (yT y) pc = some (.invokevirtual idx, n, t)) (hn : pc + 3 = n) (hl : LkV (yC y) idx y2 np) (hs : shp q.1 = some (.inl ci)) (hcl : vwCl[ci]? = some ((yN y2).cls, u)) (hc : q.2 < cnt q.1) (hnp : As.length = np) (hst : st = As.reverse ++ .ref (ga G q) :: rest) (hW : (rest.map fun v => v.category).sum ≤ 8) (hd : d2 + 1 ≤ d) (hk : k + k2 ≤ kf) (kk : Fr G y d kf Z (k + k2) n lv (.int v :: rest) M2) : Fr G y d kf Z k pc lv st M := x_callV hC hi hn hl hs hcl hc hnp hst hW hd hk kk
theorem x_callSi {y2 : Mt} {d2 k2 np : Nat} {As rest : List Value} {v : Int32} {M2 : Mm} (hC : Ct G y2 d2 As M (.inl (some (.int v))) M2 k2) (hi : tget (yT y) pc = some (.invokestatic idx, n, t)) (hn : pc + 3 = n) (hl : LkS (yC y) idx y2 np) (hnp : As.length = np) (hst : st = As.reverse ++ rest) (hW : (rest.map fun v => v.category).sum ≤ 8) (hd : d2 + 1 ≤ d) (hk : k + k2 ≤ kf) (kk : Fr G y d kf Z (k + k2) n lv (.int v :: rest) M2) : Fr G y d kf Z k pc lv st M := x_callS hC hi hn hl hnp hst hW hd hk kk
theorem x_callVl {y2 : Mt} {d2 k2 np : Nat} {u : u_T × Nat} {As rest : List Value} {v : Int64} {M2 : Mm} (hC : Ct G y2 d2 (.ref (ga G q) :: As) M (.inl (some (.long v))) M2 k2) (hi : tget (yT y) pc = some (.invokevirtual idx, n, t)) (hn : pc + 3 = n) (hl : LkV (yC y) idx y2 np) (hs : shp q.1 = some (.inl ci)) (hcl : vwCl[ci]? = some ((yN y2).cls, u)) (hc : q.2 < cnt q.1) (hnp : As.length = np) (hst : st = As.reverse ++ .ref (ga G q) :: rest) (hW : (rest.map fun v => v.category).sum ≤ 8) (hd : d2 + 1 ≤ d) (hk : k + k2 ≤ kf) (kk : Fr G y d kf Z (k + k2) n lv (.long v :: rest) M2) : Fr G y d kf Z k pc lv st M := x_callV hC hi hn hl hs hcl hc hnp hst hW hd hk kk
theorem x_callSl {y2 : Mt} {d2 k2 np : Nat} {As rest : List Value} {v : Int64} {M2 : Mm} (hC : Ct G y2 d2 As M (.inl (some (.long v))) M2 k2) (hi : tget (yT y) pc = some (.invokestatic idx, n, t)) (hn : pc + 3 = n) (hl : LkS (yC y) idx y2 np) (hnp : As.length = np) (hst : st = As.reverse ++ rest) (hW : (rest.map fun v => v.category).sum ≤ 8) (hd : d2 + 1 ≤ d) (hk : k + k2 ≤ kf) (kk : Fr G y d kf Z (k + k2) n lv (.long v :: rest) M2) : Fr G y d kf Z k pc lv st M := x_callS hC hi hn hl hnp hst hW hd hk kk
theorem x_callVv {y2 : Mt} {d2 k2 np : Nat} {u : u_T × Nat} {As rest : List Value}  {M2 : Mm} (hC : Ct G y2 d2 (.ref (ga G q) :: As) M (.inl (none)) M2 k2) (hi : tget (yT y) pc = some (.invokevirtual idx, n, t)) (hn : pc + 3 = n) (hl : LkV (yC y) idx y2 np) (hs : shp q.1 = some (.inl ci)) (hcl : vwCl[ci]? = some ((yN y2).cls, u)) (hc : q.2 < cnt q.1) (hnp : As.length = np) (hst : st = As.reverse ++ .ref (ga G q) :: rest) (hW : (rest.map fun v => v.category).sum ≤ 8) (hd : d2 + 1 ≤ d) (hk : k + k2 ≤ kf) (kk : Fr G y d kf Z (k + k2) n lv (rest) M2) : Fr G y d kf Z k pc lv st M := x_callV hC hi hn hl hs hcl hc hnp hst hW hd hk kk
theorem x_callSv {y2 : Mt} {d2 k2 np : Nat} {As rest : List Value}  {M2 : Mm} (hC : Ct G y2 d2 As M (.inl (none)) M2 k2) (hi : tget (yT y) pc = some (.invokestatic idx, n, t)) (hn : pc + 3 = n) (hl : LkS (yC y) idx y2 np) (hnp : As.length = np) (hst : st = As.reverse ++ rest) (hW : (rest.map fun v => v.category).sum ≤ 8) (hd : d2 + 1 ≤ d) (hk : k + k2 ≤ kf) (kk : Fr G y d kf Z (k + k2) n lv (rest) M2) : Fr G y d kf Z k pc lv st M := x_callS hC hi hn hl hnp hst hW hd hk kk
theorem x_ifN_eq {a : Nat} (ha : a < 2 ^ 31) {o9 : Int} (hi : tget (yT y) pc = some (.ifCond .eq o9, n, t)) (hn : pc + 3 = n) (kt : a = 0 → Fr G y d kf Z k t lv st M) (ke : ¬ a = 0 → Fr G y d kf Z k n lv st M) : Fr G y d kf Z k pc lv (.int (nI a) :: st) M :=
  x_if_eq hi hn (fun h => kt (by exact (nI_eq ha (by decide)).mp h)) (fun h => ke (by exact fun q9 => h (by rw [q9]; rfl)))
theorem x_ifN_ne {a : Nat} (ha : a < 2 ^ 31) {o9 : Int} (hi : tget (yT y) pc = some (.ifCond .ne o9, n, t)) (hn : pc + 3 = n) (kt : ¬ a = 0 → Fr G y d kf Z k t lv st M) (ke : a = 0 → Fr G y d kf Z k n lv st M) : Fr G y d kf Z k pc lv (.int (nI a) :: st) M :=
  x_if_ne hi hn (fun h => kt (by exact fun q9 => h (by rw [q9]; rfl))) (fun h => ke (by exact (nI_eq ha (by decide)).mp h))
theorem x_ifN_gt {a : Nat} (ha : a < 2 ^ 31) {o9 : Int} (hi : tget (yT y) pc = some (.ifCond .gt o9, n, t)) (hn : pc + 3 = n) (kt : 0 < a → Fr G y d kf Z k t lv st M) (ke : a = 0 → Fr G y d kf Z k n lv st M) : Fr G y d kf Z k pc lv (.int (nI a) :: st) M :=
  x_if_gt hi hn (fun h => kt (by exact (nI_ltI (by decide) ha).mp h)) (fun h => ke (by exact Nat.eq_zero_of_not_pos fun q9 => h ((nI_ltI (by decide) ha).mpr q9)))
theorem x_ifN_le {a : Nat} (ha : a < 2 ^ 31) {o9 : Int} (hi : tget (yT y) pc = some (.ifCond .le o9, n, t)) (hn : pc + 3 = n) (kt : a = 0 → Fr G y d kf Z k t lv st M) (ke : 0 < a → Fr G y d kf Z k n lv st M) : Fr G y d kf Z k pc lv (.int (nI a) :: st) M :=
  x_if_le hi hn (fun h => kt (by exact Nat.le_zero.mp ((nI_leI ha (by decide)).mp h))) (fun h => ke (by exact Nat.pos_of_ne_zero fun q9 => h (by rw [q9]; decide)))
theorem x_ifN_lt {a : Nat} (ha : a < 2 ^ 31) {o9 : Int} (hi : tget (yT y) pc = some (.ifCond .lt o9, n, t)) (hn : pc + 3 = n) (kt : False → Fr G y d kf Z k t lv st M) (ke : True → Fr G y d kf Z k n lv st M) : Fr G y d kf Z k pc lv (.int (nI a) :: st) M :=
  x_if_lt hi hn (fun h => kt (by exact nI_pos ha h)) (fun h => ke (by exact trivial))
theorem x_ifN_ge {a : Nat} (ha : a < 2 ^ 31) {o9 : Int} (hi : tget (yT y) pc = some (.ifCond .ge o9, n, t)) (hn : pc + 3 = n) (kt : True → Fr G y d kf Z k t lv st M) (ke : False → Fr G y d kf Z k n lv st M) : Fr G y d kf Z k pc lv (.int (nI a) :: st) M :=
  x_if_ge hi hn (fun h => kt (by exact trivial)) (fun h => ke (by exact h (nI_pos' ha)))
end XE
/-- a list of longs in the class: its cell, its row's cell, how many it can hold -/
def LLk (q q' : Ky) (N : Nat) : Prop := shp q.1 = some (.inl 0) ∧ q.2 < cnt q.1 ∧ rf q 0 = some q' ∧ shp q'.1 = some (.inr (1, N)) ∧ q'.2 < cnt q'.1 ∧ N ≤ 1000
end
section
/-- a truth as an int -/
noncomputable def bI (P : Prop) : Int32 := @ite _ P (Classical.propDecidable P) (nI 1) (nI 0)
theorem bI_t {P : Prop} (h : P) : bI P = nI 1 := by unfold bI; exact @if_pos _ (Classical.propDecidable P) h _ _ _
theorem bI_f {P : Prop} (h : ¬ P) : bI P = nI 0 := by unfold bI; exact @if_neg _ (Classical.propDecidable P) h _ _ _
theorem bI_01 (P : Prop) : bI P = 0 ∨ bI P = 1 := by
  by_cases h : P
  · rw [bI_t h]; exact Or.inr rfl
  · rw [bI_f h]; exact Or.inl rfl
theorem bI_iff {P Q : Prop} (h : P ↔ Q) : bI P = bI Q := by rw [propext h]
section XB
variable {G : Gd} {y : Mt} {d kf : Nat} {Z : Zt} {k pc n t : Nat} {lv lv' : List (Nat × Value)} {st : List Value} {M M' : Mm}
theorem x_ifB_eq {P : Prop} {o9 : Int} (hi : tget (yT y) pc = some (.ifCond .eq o9, n, t)) (hn : pc + 3 = n) (kt : ¬ P → Fr G y d kf Z k t lv st M) (ke : P → Fr G y d kf Z k n lv st M) : Fr G y d kf Z k pc lv (.int (bI P) :: st) M :=
  x_if_eq hi hn (fun h => kt fun p => by rw [bI_t p] at h; exact absurd h (by decide +kernel)) (fun h => ke (Classical.byContradiction fun p => h (by rw [bI_f p]; rfl)))
theorem x_ifB_ne {P : Prop} {o9 : Int} (hi : tget (yT y) pc = some (.ifCond .ne o9, n, t)) (hn : pc + 3 = n) (kt : P → Fr G y d kf Z k t lv st M) (ke : ¬ P → Fr G y d kf Z k n lv st M) : Fr G y d kf Z k pc lv (.int (bI P) :: st) M :=
  x_if_ne hi hn (fun h => kt (Classical.byContradiction fun p => h (by rw [bI_f p]; rfl))) (fun h => ke fun p => by rw [bI_t p] at h; exact absurd h (by decide +kernel))
end XB
/-- the first place from i on, among n, where f is e -/
def fx (f : Nat → Int64) (e : Int64) : Nat → Nat → Option Nat
  | _, 0 => none
  | i, n + 1 => if f i = e then some i else fx f e (i + 1) n
def ixv (r : Option Nat) : Int32 := match r with | some j => nI j | none => -1
section LL
variable {G : Gd} {d : Nat} {q q' q2 q2' : Ky} {N len N2 len2 : Nat} {M : Mm}
set_option maxHeartbeats 4000000 in
set_option maxRecDepth 20000 in
theorem c_LL_empty (hG : Gok G) (h : LLk q q' N) : Ct G mX0_empty d [.ref (ga G q)] M (.inl none) (ui M q 1 (nI 0)) 0 := by
  obtain ⟨h1, h2, h3, h4, h5, h6⟩ := h
  refine ct_of hG okX0_empty (by decide +kernel) rfl (Nat.le_of_ble_eq_true rfl) ?_
  refine x_aload_n rfl rfl rfl ?_
  refine x_iconstN (b := 0) rfl rfl ?_
  refine x_putI rfl rfl f_0_15 rfl h1 h2 rfl ?_
  exact x_retV rfl rfl rfl (by omega) rfl rfl
set_option maxHeartbeats 4000000 in
set_option maxRecDepth 20000 in
theorem c_LL_isFull (hG : Gok G) (h : LLk q q' N) (hl : M.1 q 1 = nI len) (hle : len ≤ N) : Ct G mX0_isFull d [.ref (ga G q)] M (.inl (some (.int (bI (len = N))))) M 0 := by
  obtain ⟨h1, h2, h3, h4, h5, h6⟩ := h
  refine ct_of hG okX0_isFull (by decide +kernel) rfl (Nat.le_of_ble_eq_true rfl) ?_
  refine x_aload_n rfl rfl rfl ?_
  refine x_getIv (v := nI len) hl rfl rfl f_0_15 h1 h2 rfl ?_
  refine x_aload_n rfl rfl rfl ?_
  refine x_getR rfl rfl f_0_9 h1 h2 rfl h3 ?_
  refine x_alen rfl rfl h4 (by decide) h5 ?_
  refine x_icmpN_ne (by omega) (by omega) rfl rfl (fun hc1 => ?_) (fun hc1 => ?_)
  · refine x_iconstN (b := 0) rfl rfl ?_
    exact x_retZ rfl rfl rfl (by first | exact Or.inl rfl | exact Or.inr rfl) (by omega) (by rw [bI_f (by omega)]) rfl
  · refine x_iconstN (b := 1) rfl rfl ?_
    refine x_goto rfl rfl ?_
    exact x_retZ rfl rfl rfl (by first | exact Or.inl rfl | exact Or.inr rfl) (by omega) (by rw [bI_t (by omega)]) rfl
set_option maxHeartbeats 4000000 in
set_option maxRecDepth 20000 in
theorem c_LL_add (hG : Gok G) (h : LLk q q' N) (e : Int64) (hl : M.1 q 1 = nI len) (hlt : len < N) : Ct G mX0_add d [.ref (ga G q), .long (e)] M (.inl none) (ui (ul M q' len e) q 1 (nI (len + 1))) 0 := by
  obtain ⟨h1, h2, h3, h4, h5, h6⟩ := h
  refine ct_of hG okX0_add (by decide +kernel) rfl (Nat.le_of_ble_eq_true rfl) ?_
  refine x_aload_n rfl rfl rfl ?_
  refine x_getIv (v := nI len) hl rfl rfl f_0_15 h1 h2 rfl ?_
  refine x_aload_n rfl rfl rfl ?_
  refine x_getR rfl rfl f_0_9 h1 h2 rfl h3 ?_
  refine x_alen rfl rfl h4 (by decide) h5 ?_
  refine x_icmpN_ge (by omega) (by omega) rfl rfl (fun hc1 => absurd hc1 (by omega)) (fun hc1 => ?_)
  refine x_aload_n rfl rfl rfl ?_
  refine x_getR rfl rfl f_0_9 h1 h2 rfl h3 ?_
  refine x_aload_n rfl rfl rfl ?_
  refine x_getIv (v := nI len) hl rfl rfl f_0_15 h1 h2 rfl ?_
  refine x_lload_n rfl rfl rfl ?_
  refine x_last (a := len) rfl rfl h4 h5 (by omega) (by omega) ?_
  refine x_aload_n rfl rfl rfl ?_
  refine x_dup rfl rfl rfl ?_
  refine x_getIv (v := nI len) (by first | exact hl | (rw [← hl]; rfl) | simp [ui, ul, hl]) rfl rfl f_0_15 h1 h2 rfl ?_
  refine x_iconstN (b := 1) rfl rfl ?_
  refine x_iaddN (a := len) (b := 1) rfl rfl ?_
  refine x_putI rfl rfl f_0_15 rfl h1 h2 rfl ?_
  exact x_retV rfl rfl rfl (by omega) rfl rfl
set_option maxHeartbeats 4000000 in
set_option maxRecDepth 20000 in
theorem c_LL_addF (hG : Gok G) (h : LLk q q' N) (e : Int64) (hl : M.1 q 1 = nI len) (hlt : len = N) : Ct G mX0_add d [.ref (ga G q), .long (e)] M (.inl none) M 0 := by
  obtain ⟨h1, h2, h3, h4, h5, h6⟩ := h
  refine ct_of hG okX0_add (by decide +kernel) rfl (Nat.le_of_ble_eq_true rfl) ?_
  refine x_aload_n rfl rfl rfl ?_
  refine x_getIv (v := nI len) hl rfl rfl f_0_15 h1 h2 rfl ?_
  refine x_aload_n rfl rfl rfl ?_
  refine x_getR rfl rfl f_0_9 h1 h2 rfl h3 ?_
  refine x_alen rfl rfl h4 (by decide) h5 ?_
  refine x_icmpN_ge (by omega) (by omega) rfl rfl (fun hc1 => ?_) (fun hc1 => absurd hc1 (by omega))
  exact x_retV rfl rfl rfl (by omega) rfl rfl
set_option maxHeartbeats 4000000 in
set_option maxRecDepth 20000 in
theorem c_LL_replace (hG : Gok G) (h : LLk q q' N) (j : Nat) (e : Int64) (hl : M.1 q 1 = nI len) (hle : len ≤ N) (hj : j < len) : Ct G mX0_replace d [.ref (ga G q), .int (nI j), .long (e)] M (.inl none) (ul M q' j e) 0 := by
  obtain ⟨h1, h2, h3, h4, h5, h6⟩ := h
  refine ct_of hG okX0_replace (by decide +kernel) rfl (Nat.le_of_ble_eq_true rfl) ?_
  refine x_iload_n rfl rfl rfl ?_
  refine x_ifN_lt (by omega) rfl rfl (fun hc1 => hc1.elim) (fun hc1 => ?_)
  refine x_iload_n rfl rfl rfl ?_
  refine x_aload_n rfl rfl rfl ?_
  refine x_getIv (v := nI len) hl rfl rfl f_0_15 h1 h2 rfl ?_
  refine x_icmpN_ge (by omega) (by omega) rfl rfl (fun hc2 => absurd hc2 (by omega)) (fun hc2 => ?_)
  refine x_aload_n rfl rfl rfl ?_
  refine x_getR rfl rfl f_0_9 h1 h2 rfl h3 ?_
  refine x_iload_n rfl rfl rfl ?_
  refine x_lload_n rfl rfl rfl ?_
  refine x_last (a := j) rfl rfl h4 h5 (by omega) (by omega) ?_
  exact x_retV rfl rfl rfl (by omega) rfl rfl
set_option maxHeartbeats 4000000 in
set_option maxRecDepth 20000 in
theorem c_LL_at (hG : Gok G) (h : LLk q q' N) (j : Nat) (hl : M.1 q 1 = nI len) (hle : len ≤ N) (hj : j < len) : Ct G mX0_at d [.ref (ga G q), .int (nI j)] M ((.inl (some (.long (M.2 q' j))))) M 0 := by
  obtain ⟨h1, h2, h3, h4, h5, h6⟩ := h
  refine ct_of hG okX0_at (by decide +kernel) rfl (Nat.le_of_ble_eq_true rfl) ?_
  refine x_iload_n rfl rfl rfl ?_
  refine x_ifN_lt (by omega) rfl rfl (fun hc1 => hc1.elim) (fun hc1 => ?_)
  refine x_iload_n rfl rfl rfl ?_
  refine x_aload_n rfl rfl rfl ?_
  refine x_getIv (v := nI len) hl rfl rfl f_0_15 h1 h2 rfl ?_
  refine x_icmpN_ge (by omega) (by omega) rfl rfl (fun hc2 => absurd hc2 (by omega)) (fun hc2 => ?_)
  refine x_aload_n rfl rfl rfl ?_
  refine x_getR rfl rfl f_0_9 h1 h2 rfl h3 ?_
  refine x_iload_n rfl rfl rfl ?_
  refine x_lald (a := j) rfl rfl h4 h5 (by omega) (by omega) ?_
  refine x_goto rfl rfl ?_
  exact x_retL rfl rfl rfl (by omega) rfl rfl
set_option maxHeartbeats 4000000 in
set_option maxRecDepth 20000 in
theorem c_LL_atO (hG : Gok G) (h : LLk q q' N) (j : Nat) (hl : M.1 q 1 = nI len) (hle : len ≤ N) (hj : len ≤ j) (hj2 : j < 2 ^ 31) : Ct G mX0_at d [.ref (ga G q), .int (nI j)] M ((.inl (some (.long (-1))))) M 0 := by
  obtain ⟨h1, h2, h3, h4, h5, h6⟩ := h
  refine ct_of hG okX0_at (by decide +kernel) rfl (Nat.le_of_ble_eq_true rfl) ?_
  refine x_iload_n rfl rfl rfl ?_
  refine x_ifN_lt (by omega) rfl rfl (fun hc1 => hc1.elim) (fun hc1 => ?_)
  refine x_iload_n rfl rfl rfl ?_
  refine x_aload_n rfl rfl rfl ?_
  refine x_getIv (v := nI len) hl rfl rfl f_0_15 h1 h2 rfl ?_
  refine x_icmpN_ge (by omega) (by omega) rfl rfl (fun hc2 => ?_) (fun hc2 => absurd hc2 (by omega))
  refine x_ldc2 (v := -1) rfl rfl k_0_19 ?_
  exact x_retL rfl rfl rfl (by omega) rfl rfl
set_option maxHeartbeats 4000000 in
set_option maxRecDepth 20000 in
theorem c_LL_atN (hG : Gok G) (h : LLk q q' N) (i : Int32) (hi : i < 0) : Ct G mX0_at d [.ref (ga G q), .int (i)] M ((.inl (some (.long (-1))))) M 0 := by
  obtain ⟨h1, h2, h3, h4, h5, h6⟩ := h
  refine ct_of hG okX0_at (by decide +kernel) rfl (Nat.le_of_ble_eq_true rfl) ?_
  refine x_iload_n rfl rfl rfl ?_
  refine x_if_lt rfl rfl (fun hc1 => ?_) (fun hc1 => absurd hi hc1)
  refine x_ldc2 (v := -1) rfl rfl k_0_19 ?_
  exact x_retL rfl rfl rfl (by omega) rfl rfl
set_option maxHeartbeats 4000000 in
theorem l_LL_placeOf (h : LLk q q' N) (e : Int64) (hl : M.1 q 1 = nI len) (hle : len ≤ N) : ∀ n i : Nat, i + n = len → Fr G mX0_placeOf d 0 (Zm G (.inl (some (.int (ixv (fx (M.2 q') e i n))))) M 0) 0 2 [(0, .ref (ga G q)), (1, .long (e)), (3, .int (nI i))] [] M := by
  obtain ⟨h1, h2, h3, h4, h5, h6⟩ := h
  intro n
  induction n with
  | zero =>
    intro i hi
    refine x_iload_n rfl rfl rfl ?_
    refine x_aload_n rfl rfl rfl ?_
    refine x_getIv (v := nI len) hl rfl rfl f_0_15 h1 h2 rfl ?_
    refine x_icmpN_ge (by omega) (by omega) rfl rfl (fun hc1 => ?_) (fun hc1 => absurd hc1 (by omega))
    refine x_iconst (v := -1) rfl rfl (by decide +kernel) ?_
    exact x_retI rfl rfl rfl (by omega) rfl rfl
  | succ n ih =>
    intro i hi
    refine x_iload_n rfl rfl rfl ?_
    refine x_aload_n rfl rfl rfl ?_
    refine x_getIv (v := nI len) hl rfl rfl f_0_15 h1 h2 rfl ?_
    refine x_icmpN_ge (by omega) (by omega) rfl rfl (fun hc1 => absurd hc1 (by omega)) (fun hc1 => ?_)
    refine x_aload_n rfl rfl rfl ?_
    refine x_getR rfl rfl f_0_9 h1 h2 rfl h3 ?_
    refine x_iload_n rfl rfl rfl ?_
    refine x_lald (a := i) rfl rfl h4 h5 (by omega) (by omega) ?_
    refine x_lload_n rfl rfl rfl ?_
    refine x_lc_ne rfl rfl rfl rfl (fun hc2 => ?_) (fun hc2 => ?_)
    · refine x_iincN (a := i) (b := 1) rfl rfl rfl rfl rfl ?_
      refine x_goto rfl rfl ?_
      (have hz := ih (i + 1) (by omega); rw [show fx (M.2 q') e i (n + 1) = fx (M.2 q') e (i + 1) n from if_neg hc2]; exact hz)
    · refine x_iload_n rfl rfl rfl ?_
      exact x_retI rfl rfl rfl (by omega) (by rw [show fx (M.2 q') e i (n + 1) = some i from if_pos hc2]; rfl) rfl
set_option maxHeartbeats 4000000 in
theorem c_LL_placeOf (hG : Gok G) (h : LLk q q' N) (e : Int64) (hl : M.1 q 1 = nI len) (hle : len ≤ N) : Ct G mX0_placeOf d [.ref (ga G q), .long e] M (.inl (some (.int (ixv (fx (M.2 q') e 0 len))))) M 0 := by
  refine ct_of hG okX0_placeOf (by decide +kernel) rfl (Nat.le_of_ble_eq_true rfl) ?_
  refine x_iconstN (b := 0) rfl rfl ?_
  refine x_istore_n rfl rfl rfl rfl ?_
  exact l_LL_placeOf h e hl hle len 0 (by omega)
end LL
end
section
theorem lk_6 {i : Nat} (h : i < 13) : LLk (6, i) (7, i) 3 := ⟨rfl, h, rfl, rfl, h, by decide⟩
theorem lk_9 {i : Nat} (h : i < 40) : LLk (9, i) (10, i) 8 := ⟨rfl, h, rfl, rfl, h, by decide⟩
theorem lk_11 {i : Nat} (h : i < 40) : LLk (11, i) (12, i) 6 := ⟨rfl, h, rfl, rfl, h, by decide⟩
theorem lk_13 {i : Nat} (h : i < 40) : LLk (13, i) (14, i) 6 := ⟨rfl, h, rfl, rfl, h, by decide⟩
theorem lk_17 {i : Nat} (h : i < 1) : LLk (17, i) (18, i) 6 := ⟨rfl, h, by cases i with | zero => rfl | succ i => omega, rfl, h, by decide⟩
theorem lk_20 {i : Nat} (h : i < 1) : LLk (20, i) (21, i) 300 := ⟨rfl, h, by cases i with | zero => rfl | succ i => omega, rfl, h, by decide⟩
theorem lk_22 {i : Nat} (h : i < 1) : LLk (22, i) (23, i) 40 := ⟨rfl, h, by cases i with | zero => rfl | succ i => omega, rfl, h, by decide⟩
theorem lk_24 {i : Nat} (h : i < 1) : LLk (24, i) (25, i) 12 := ⟨rfl, h, by cases i with | zero => rfl | succ i => omega, rfl, h, by decide⟩
theorem lk_28 {i : Nat} (h : i < 1) : LLk (28, i) (29, i) 300 := ⟨rfl, h, by cases i with | zero => rfl | succ i => omega, rfl, h, by decide⟩
theorem lk_30 {i : Nat} (h : i < 1) : LLk (30, i) (31, i) 40 := ⟨rfl, h, by cases i with | zero => rfl | succ i => omega, rfl, h, by decide⟩
theorem lk_32 {i : Nat} (h : i < 1) : LLk (32, i) (33, i) 40 := ⟨rfl, h, by cases i with | zero => rfl | succ i => omega, rfl, h, by decide⟩
section C1
variable {G : Gd} {d : Nat} {q q' q2 q2' : Ky} {N len N2 len2 : Nat} {M : Mm}
theorem fx_lt {f : Nat → Int64} {e : Int64} : ∀ {n i j : Nat}, fx f e i n = some j → i ≤ j ∧ j < i + n
  | 0, i, j, h => by cases h
  | n + 1, i, j, h => by
    unfold fx at h
    by_cases hf : f i = e
    · rw [if_pos hf] at h
      cases h
      omega
    · rw [if_neg hf] at h
      have := fx_lt h
      omega
theorem ixv_none {f : Nat → Int64} {e : Int64} {n : Nat} (hn : n < 2 ^ 31) (h : ixv (fx f e 0 n) = -1) : fx f e 0 n = none := by
  cases hx : fx f e 0 n with
  | none => rfl
  | some j =>
    rw [hx] at h
    have hj := fx_lt hx
    have : (nI j).toInt = (-1 : Int32).toInt := by rw [show nI j = -1 from h]
    rw [nI_toInt (by omega)] at this
    have h2 : (-1 : Int32).toInt = -1 := by decide +kernel
    omega
set_option maxHeartbeats 4000000 in
set_option maxRecDepth 20000 in
theorem c_LL_has (hG : Gok G) (h : LLk q q' N) (e : Int64) (hl : M.1 q 1 = nI len) (hle : len ≤ N) (hN : N ≤ 1000) (hd : 1 ≤ d) : Ct G mX0_has d [.ref (ga G q), .long (e)] M (.inl (some (.int (bI (fx (M.2 q') e 0 len ≠ none))))) M 0 := by
  refine ct_of hG okX0_has (by decide +kernel) rfl (Nat.le_of_ble_eq_true rfl) ?_
  refine x_aload_n rfl rfl rfl ?_
  refine x_lload_n rfl rfl rfl ?_
  refine x_callVi (d2 := 0) (c_LL_placeOf hG h e hl hle) rfl rfl v_0_21 h.1 rfl h.2.1 rfl rfl (Nat.le_of_ble_eq_true rfl) (by omega) (by omega) ?_
  refine x_iconst (v := -1) rfl rfl (by decide +kernel) ?_
  refine x_icmp_eq rfl rfl (fun hc1 => ?_) (fun hc1 => ?_)
  · refine x_iconstN (b := 0) rfl rfl ?_
    exact x_retZ rfl rfl rfl (by first | exact Or.inl rfl | exact Or.inr rfl) (by omega) (by rw [bI_f (fun z => z (ixv_none (by omega) hc1))]) rfl
  · refine x_iconstN (b := 1) rfl rfl ?_
    refine x_goto rfl rfl ?_
    exact x_retZ rfl rfl rfl (by first | exact Or.inl rfl | exact Or.inr rfl) (by omega) (by rw [bI_t (fun z => hc1 (by rw [z]; rfl))]) rfl
set_option maxHeartbeats 4000000 in
theorem l_LL_isLike (h : LLk q q' N) (g : LLk q2 q2' N2) (hl : M.1 q 1 = nI len) (hle : len ≤ N) (hle2 : len ≤ N2) : ∀ n i : Nat, i + n = len → (∀ k, k < i → M.2 q' k = M.2 q2' k) → Fr G mX0_isLike d 0 (Zm G (.inl (some (.int (bI (∀ k, k < len → M.2 q' k = M.2 q2' k))))) M 0) 0 15 [(0, .ref (ga G q)), (1, .ref (ga G q2)), (2, .int (nI i))] [] M := by
  obtain ⟨h1, h2, h3, h4, h5, h6⟩ := h
  obtain ⟨g1, g2, g3, g4, g5, g6⟩ := g
  intro n
  induction n with
  | zero =>
    intro i hi hk
    refine x_iload_n rfl rfl rfl ?_
    refine x_aload_n rfl rfl rfl ?_
    refine x_getIv (v := nI len) hl rfl rfl f_0_15 h1 h2 rfl ?_
    refine x_icmpN_ge (by omega) (by omega) rfl rfl (fun hc1 => ?_) (fun hc1 => absurd hc1 (by omega))
    refine x_iconstN (b := 1) rfl rfl ?_
    exact x_retZ rfl rfl rfl (Or.inr rfl) (by omega) (by rw [bI_t (fun k hk9 => hk k (by omega))]) rfl
  | succ n ih =>
    intro i hi hk
    refine x_iload_n rfl rfl rfl ?_
    refine x_aload_n rfl rfl rfl ?_
    refine x_getIv (v := nI len) hl rfl rfl f_0_15 h1 h2 rfl ?_
    refine x_icmpN_ge (by omega) (by omega) rfl rfl (fun hc1 => absurd hc1 (by omega)) (fun hc1 => ?_)
    refine x_aload_n rfl rfl rfl ?_
    refine x_getR rfl rfl f_0_9 h1 h2 rfl h3 ?_
    refine x_iload_n rfl rfl rfl ?_
    refine x_lald (a := i) rfl rfl h4 h5 (by omega) (by omega) ?_
    refine x_aload_n rfl rfl rfl ?_
    refine x_getR rfl rfl f_0_9 g1 g2 rfl g3 ?_
    refine x_iload_n rfl rfl rfl ?_
    refine x_lald (a := i) rfl rfl g4 g5 (by omega) (by omega) ?_
    refine x_lc_eq rfl rfl rfl rfl (fun hc2 => ?_) (fun hc2 => ?_)
    · refine x_iincN (a := i) (b := 1) rfl rfl rfl rfl rfl ?_
      refine x_goto rfl rfl ?_
      exact ih (i + 1) (by omega) (fun k hk9 => by rcases Nat.lt_or_ge k i with z | z; exact hk k z; rw [show k = i by omega]; exact hc2)
    · refine x_iconstN (b := 0) rfl rfl ?_
      exact x_retZ rfl rfl rfl (Or.inl rfl) (by omega) (by rw [bI_f (fun z => hc2 (z i (by omega)))]) rfl
set_option maxHeartbeats 4000000 in
set_option maxRecDepth 20000 in
theorem c_LL_isLike (hG : Gok G) (h : LLk q q' N) (g : LLk q2 q2' N2) (hl : M.1 q 1 = nI len) (hle : len ≤ N) (hl2 : M.1 q2 1 = nI len2) (hle2 : len2 ≤ N2) : Ct G mX0_isLike d [.ref (ga G q), .ref (ga G q2)] M (.inl (some (.int (bI (len = len2 ∧ ∀ k, k < len → M.2 q' k = M.2 q2' k))))) M 0 := by
  obtain ⟨h1, h2, h3, h4, h5, h6⟩ := id h
  obtain ⟨g1, g2, g3, g4, g5, g6⟩ := id g
  refine ct_of hG okX0_isLike (by decide +kernel) rfl (Nat.le_of_ble_eq_true rfl) ?_
  refine x_aload_n rfl rfl rfl ?_
  refine x_getIv (v := nI len) hl rfl rfl f_0_15 h1 h2 rfl ?_
  refine x_aload_n rfl rfl rfl ?_
  refine x_getIv (v := nI len2) hl2 rfl rfl f_0_15 g1 g2 rfl ?_
  refine x_icmpN_eq (by omega) (by omega) rfl rfl (fun hc1 => ?_) (fun hc1 => ?_)
  · refine x_iconstN (b := 0) rfl rfl ?_
    refine x_istore_n rfl rfl rfl rfl ?_
    rw [bI_iff (show (len = len2 ∧ ∀ k, k < len → M.2 q' k = M.2 q2' k) ↔ (∀ k, k < len → M.2 q' k = M.2 q2' k) from ⟨fun z => z.2, fun z => ⟨by omega, z⟩⟩)]
    exact l_LL_isLike h g hl hle (by omega) len 0 (by omega) (fun k hk => by omega)
  · refine x_iconstN (b := 0) rfl rfl ?_
    exact x_retZ rfl rfl rfl (Or.inl rfl) (by omega) (by rw [bI_f (fun z => by omega)]) rfl
end C1
section C2
variable {G : Gd} {d : Nat} {M : Mm}
set_option maxHeartbeats 4000000 in
set_option maxRecDepth 20000 in
theorem c_Tr_become (hG : Gok G) (hd : 1 ≤ d) {t : Nat} (ht : t < 13) (nm : Int64) (dy : Prop) : Ct G mX6_become d [.ref (ga G (5, t)), .long (nm), .int (bI (dy))] M (.inl none) (ui (ui (ul M (5, t) 1 nm) (5, t) 2 (bI dy)) (6, t) 1 (nI 0)) 0 := by
  refine ct_of hG okX6_become (by decide +kernel) rfl (Nat.le_of_ble_eq_true rfl) ?_
  refine x_aload_n rfl rfl rfl ?_
  refine x_lload_n rfl rfl rfl ?_
  refine x_putL rfl rfl f_6_20 rfl rfl (by show _ < 13; omega) rfl ?_
  refine x_aload_n rfl rfl rfl ?_
  refine x_iload_n rfl rfl rfl ?_
  refine x_putZ rfl rfl f_6_24 rfl rfl (by show _ < 13; omega) rfl (by first | exact Or.inl rfl | exact Or.inr rfl | exact bI_01 _ | assumption) ?_
  refine x_aload_n rfl rfl rfl ?_
  refine x_getRi rfl rfl f_6_14 rfl (by show _ < 13; omega) rfl rfl ?_
  refine x_callVv (d2 := 0) (c_LL_empty hG (lk_6 (by omega))) rfl rfl v_6_28 rfl rfl (by show _ < 13; omega) rfl rfl (Nat.le_of_ble_eq_true rfl) (by omega) (by omega) ?_
  exact x_retV rfl rfl rfl (by omega) rfl rfl
set_option maxHeartbeats 4000000 in
set_option maxRecDepth 20000 in
theorem c_Th_become (hG : Gok G) (hd : 1 ≤ d) {i : Nat} (hi : i < 40) (kd : Int32) : Ct G mX5_become d [.ref (ga G (8, i)), .int (kd)] M (.inl none) (ui (ui (ui (ul (ui (ui M (8, i) 3 kd) (8, i) 4 (-1)) (8, i) 5 0) (9, i) 1 (nI 0)) (11, i) 1 (nI 0)) (13, i) 1 (nI 0)) 0 := by
  refine ct_of hG okX5_become (by decide +kernel) rfl (Nat.le_of_ble_eq_true rfl) ?_
  refine x_aload_n rfl rfl rfl ?_
  refine x_iload_n rfl rfl rfl ?_
  refine x_putI rfl rfl f_5_26 rfl rfl (by show _ < 40; omega) rfl ?_
  refine x_aload_n rfl rfl rfl ?_
  refine x_iconst (v := -1) rfl rfl (by decide +kernel) ?_
  refine x_putI rfl rfl f_5_30 rfl rfl (by show _ < 40; omega) rfl ?_
  refine x_aload_n rfl rfl rfl ?_
  refine x_lconst (v := 0) rfl rfl (by decide +kernel) ?_
  refine x_putL rfl rfl f_5_33 rfl rfl (by show _ < 40; omega) rfl ?_
  refine x_aload_n rfl rfl rfl ?_
  refine x_getRi rfl rfl f_5_14 rfl (by show _ < 40; omega) rfl rfl ?_
  refine x_callVv (d2 := 0) (c_LL_empty hG (lk_9 (by omega))) rfl rfl v_5_37 rfl rfl (by show _ < 40; omega) rfl rfl (Nat.le_of_ble_eq_true rfl) (by omega) (by omega) ?_
  refine x_aload_n rfl rfl rfl ?_
  refine x_getRi rfl rfl f_5_20 rfl (by show _ < 40; omega) rfl rfl ?_
  refine x_callVv (d2 := 0) (c_LL_empty hG (lk_11 (by omega))) rfl rfl v_5_37 rfl rfl (by show _ < 40; omega) rfl rfl (Nat.le_of_ble_eq_true rfl) (by omega) (by omega) ?_
  refine x_aload_n rfl rfl rfl ?_
  refine x_getRi rfl rfl f_5_23 rfl (by show _ < 40; omega) rfl rfl ?_
  refine x_callVv (d2 := 0) (c_LL_empty hG (lk_13 (by omega))) rfl rfl v_5_37 rfl rfl (by show _ < 40; omega) rfl rfl (Nat.le_of_ble_eq_true rfl) (by omega) (by omega) ?_
  exact x_retV rfl rfl rfl (by omega) rfl rfl
set_option maxHeartbeats 4000000 in
set_option maxRecDepth 20000 in
theorem c_St_keepOnly (hG : Gok G) (a b c : Int32) : Ct G mX4_keepOnly d [.ref (ga G (1, 0)), .int (a), .int (b), .int (c)] M (.inl none) (ui (ui (ui M (1, 0) 3 a) (1, 0) 4 b) (1, 0) 5 c) 0 := by
  refine ct_of hG okX4_keepOnly (by decide +kernel) rfl (Nat.le_of_ble_eq_true rfl) ?_
  refine x_aload_n rfl rfl rfl ?_
  refine x_iload_n rfl rfl rfl ?_
  refine x_putI rfl rfl f_4_29 rfl rfl (by decide) rfl ?_
  refine x_aload_n rfl rfl rfl ?_
  refine x_iload_n rfl rfl rfl ?_
  refine x_putI rfl rfl f_4_33 rfl rfl (by decide) rfl ?_
  refine x_aload_n rfl rfl rfl ?_
  refine x_iload_n rfl rfl rfl ?_
  refine x_putI rfl rfl f_4_36 rfl rfl (by decide) rfl ?_
  exact x_retV rfl rfl rfl (by omega) rfl rfl
set_option maxHeartbeats 4000000 in
set_option maxRecDepth 20000 in
theorem c_valueOf (hG : Gok G) (kd : Int32) (ab : Int64) : Ct G mX8_valueOf d [.int (kd), .long (ab)] M (.inl (some (.long (16 * ab + kd.toInt64)))) M 0 := by
  refine ct_of hG okX8_valueOf (by decide +kernel) rfl (Nat.le_of_ble_eq_true rfl) ?_
  refine x_ldc2 (v := 16) rfl rfl k_8_244 ?_
  refine x_lload_n rfl rfl rfl ?_
  refine x_lmul rfl rfl ?_
  refine x_iload_n rfl rfl rfl ?_
  refine x_i2l rfl rfl ?_
  refine x_ladd rfl rfl ?_
  exact x_retL rfl rfl rfl (by omega) rfl rfl
set_option maxHeartbeats 4000000 in
set_option maxRecDepth 20000 in
theorem c_kindOf (hG : Gok G) (v : Int64) : Ct G mX8_kindOf d [.long (v)] M (.inl (some (.int ((v &&& 15).toInt32)))) M 0 := by
  refine ct_of hG okX8_kindOf (by decide +kernel) rfl (Nat.le_of_ble_eq_true rfl) ?_
  refine x_lload_n rfl rfl rfl ?_
  refine x_ldc2 (v := 15) rfl rfl k_8_246 ?_
  refine x_land rfl rfl ?_
  refine x_l2i rfl rfl ?_
  exact x_retI rfl rfl rfl (by omega) rfl rfl
set_option maxHeartbeats 4000000 in
set_option maxRecDepth 20000 in
theorem c_aboveKind (hG : Gok G) (v : Int64) : Ct G mX8_aboveKind d [.long (v)] M (.inl (some (.long (v >>> ((nI 4).toInt64 &&& 63))))) M 0 := by
  refine ct_of hG okX8_aboveKind (by decide +kernel) rfl (Nat.le_of_ble_eq_true rfl) ?_
  refine x_lload_n rfl rfl rfl ?_
  refine x_iconstN (b := 4) rfl rfl ?_
  refine x_lshr rfl rfl ?_
  exact x_retL rfl rfl rfl (by omega) rfl rfl
end C2
end
section
def uN (x : Int64) : Nat := x.toUInt64.toNat
theorem uN_lt (x : Int64) : uN x < 18446744073709551616 := x.toUInt64.toNat_lt
theorem uN_inj {x y : Int64} (h : uN x = uN y) : x = y := congrArg UInt64.toInt64 (UInt64.toNat_inj.mp h)
theorem uN_add (x y : Int64) : uN (x + y) = (uN x + uN y) % 18446744073709551616 := by
  show (x.toUInt64 + y.toUInt64).toNat = _
  exact UInt64.toNat_add _ _
theorem uN_mul (x y : Int64) : uN (x * y) = (uN x * uN y) % 18446744073709551616 := by
  show (x.toUInt64 * y.toUInt64).toNat = _
  exact UInt64.toNat_mul _ _
theorem uN_shl (x : Int64) : uN (x <<< ((1 : Int32).toInt64 &&& 63)) = (2 * uN x) % 18446744073709551616 := by
  have h : (((1 : Int32).toInt64 &&& 63).toBitVec.smod 64).toNat = 1 := by decide
  show (x.toBitVec <<< (((1 : Int32).toInt64 &&& 63).toBitVec.smod 64).toNat).toNat = _
  rw [h, BitVec.toNat_shiftLeft, Nat.shiftLeft_eq, Nat.mul_comm]
  rfl
theorem uN_shr (x : Int64) (s : UInt64) : uN (x.toUInt64 >>> s).toInt64 = uN x / 2 ^ (s.toNat % 64) := by
  show (x.toUInt64 >>> s).toNat = _
  rw [UInt64.toNat_shiftRight, Nat.shiftRight_eq_div_pow]
  rfl
theorem uN_s32 (x : Int64) : uN (x.toUInt64 >>> ((32 : Int32).toInt64.toUInt64 &&& Int64.toUInt64 63)).toInt64 = uN x / 4294967296 := by
  have h : ((32 : Int32).toInt64.toUInt64 &&& Int64.toUInt64 63).toNat % 64 = 32 := by decide
  rw [uN_shr, h]
theorem uN_s63 (x : Int64) : uN (x.toUInt64 >>> ((63 : Int32).toInt64.toUInt64 &&& Int64.toUInt64 63)).toInt64 = uN x / 9223372036854775808 := by
  have h : ((63 : Int32).toInt64.toUInt64 &&& Int64.toUInt64 63).toNat % 64 = 63 := by decide
  rw [uN_shr, h]
theorem uN_lo (x : Int64) : uN (x &&& 4294967295) = uN x % 4294967296 := by
  show (x.toUInt64 &&& Int64.toUInt64 4294967295).toNat = _
  rw [UInt64.toNat_and]
  exact Nat.and_two_pow_sub_one_eq_mod _ 32
theorem uN_bit (x : Int64) : (x &&& 1) = 0 ↔ uN x % 2 = 0 := by
  have h : uN (x &&& 1) = uN x % 2 := by
    show (x.toUInt64 &&& Int64.toUInt64 1).toNat = _
    rw [UInt64.toNat_and]
    exact Nat.and_two_pow_sub_one_eq_mod _ 1
  rw [← h]
  exact ⟨fun z => by rw [z]; rfl, fun z => uN_inj (z.trans rfl)⟩
theorem uN_or {x y : Int64} (hy : uN y < 2) : uN ((x <<< ((1 : Int32).toInt64 &&& 63)) ||| y) = (2 * uN x) % 18446744073709551616 + uN y := by
  have h1 : uN ((x <<< ((1 : Int32).toInt64 &&& 63)) ||| y) = uN (x <<< ((1 : Int32).toInt64 &&& 63)) ||| uN y := UInt64.toNat_or _ _
  have h2 : (2 * uN x) % 18446744073709551616 = 2 ^ 1 * (uN x % 9223372036854775808) := by omega
  rw [h1, uN_shl, h2]
  exact (Nat.two_pow_add_eq_or_of_lt (i := 1) hy _).symm
theorem nat_xor {a : Nat} (h : a < 18446744073709551616) : a ^^^ 2 ^ 63 = (a + 9223372036854775808) % 18446744073709551616 := by
  have h1 : (a ^^^ 2 ^ 63) % 2 ^ 63 = a % 2 ^ 63 := by rw [Nat.xor_mod_two_pow, Nat.mod_self, Nat.xor_zero]
  have h2 : (a ^^^ 2 ^ 63) / 2 ^ 63 = (a / 2 ^ 63) ^^^ 1 := by rw [Nat.xor_div_two_pow, Nat.div_self (Nat.two_pow_pos 63)]
  have h3 : a / 2 ^ 63 = 0 ∨ a / 2 ^ 63 = 1 := by omega
  generalize a ^^^ 2 ^ 63 = t at h1 h2
  rcases h3 with h3 | h3
  · rw [h3] at h2
    have h2 : t / 2 ^ 63 = 1 := h2
    omega
  · rw [h3] at h2
    have h2 : t / 2 ^ 63 = 0 := h2
    omega
theorem uN_xor (x : Int64) : uN (x ^^^ (-9223372036854775808)) = (uN x + 9223372036854775808) % 18446744073709551616 := by
  rw [← nat_xor (uN_lt x)]
  exact UInt64.toNat_xor _ _
theorem uN_int (x : Int64) : x.toInt = if 2 * uN x < 18446744073709551616 then (uN x : Int) else (uN x : Int) - 18446744073709551616 := BitVec.toInt_eq_toNat_cond _
theorem uN_le (x y : Int64) : (x ^^^ (-9223372036854775808)) ≤ (y ^^^ (-9223372036854775808)) ↔ uN x ≤ uN y := by
  have hx := uN_lt x
  have hy := uN_lt y
  rw [Int64.le_iff_toInt_le, uN_int, uN_int, uN_xor, uN_xor]
  omega
theorem uN_sk (x : Int64) {k : Nat} (hk : k < 64) : uN (x.toUInt64 >>> ((nI k).toInt64.toUInt64 &&& Int64.toUInt64 63)).toInt64 = uN x / 2 ^ k := by
  have h : ((nI k).toInt64.toUInt64 &&& Int64.toUInt64 63).toNat % 64 = k := by
    rw [nI_l (by omega), UInt64.toNat_and]
    have e : (lN k).toUInt64.toNat = k % 2 ^ 64 := rfl
    have e2 : (Int64.toUInt64 63).toNat = 2 ^ 6 - 1 := by decide
    rw [e, e2, Nat.and_two_pow_sub_one_eq_mod]
    omega
  rw [uN_shr, h]
/-! ===== unsigned comparison by xor with the least ===== -/
theorem uN_tb (x : Int64) : uN x = x.toBitVec.toNat := rfl
theorem uN_eq0 (x : Int64) : x = 0 ↔ uN x = 0 := ⟨fun h => by rw [h]; rfl, fun h => uN_inj (by rw [h]; rfl)⟩
theorem uN_lN {n : Nat} (h : n < 18446744073709551616) : uN (lN n) = n := by
  rw [uN_tb]
  show (BitVec.ofNat 64 n).toNat = n
  rw [BitVec.toNat_ofNat]
  exact Nat.mod_eq_of_lt h
theorem lN_uN (x : Int64) : lN (uN x) = x := uN_inj (uN_lN (uN_lt x))
theorem uN_mask (x m : Int64) (k : Nat) (hm : m.toBitVec.toNat = 2 ^ k - 1) : uN (x &&& m) = uN x % 2 ^ k := by
  rw [uN_tb, uN_tb]
  show (x.toBitVec &&& m.toBitVec).toNat = _
  rw [BitVec.toNat_and, hm, Nat.and_two_pow_sub_one_eq_mod]
theorem uN_255 (x : Int64) : uN (x &&& 255) = uN x % 256 := uN_mask x 255 8 (by decide +kernel)
theorem uN_15 (x : Int64) : uN (x &&& 15) = uN x % 16 := uN_mask x 15 4 (by decide +kernel)
theorem toInt_small {x : Int64} (h : uN x < 9223372036854775808) : x.toInt = (uN x : Int) := by
  rw [uN_int]
  rw [if_pos (by omega)]
theorem le_small {x y : Int64} (hx : uN x < 9223372036854775808) (hy : uN y < 9223372036854775808) : x ≤ y ↔ uN x ≤ uN y := by
  rw [Int64.le_iff_toInt_le, toInt_small hx, toInt_small hy]
  omega
theorem lt_small {x y : Int64} (hx : uN x < 9223372036854775808) (hy : uN y < 9223372036854775808) : x < y ↔ uN x < uN y := by
  rw [Int64.lt_iff_toInt_lt, toInt_small hx, toInt_small hy]
  omega
/-- bits k .. k + 7 of a long, by a shift that keeps the sign -/
theorem uN_sbyte (x : Int64) {k : Nat} (hk : k ≤ 56) : uN ((x >>> ((nI k).toInt64 &&& 63)) &&& 255) = uN x / 2 ^ k % 256 := by
  have hs : ((nI k).toInt64 &&& 63 : Int64) = lN k := by
    rw [nI_l (by omega)]
    apply uN_inj
    rw [uN_mask (lN k) 63 6 (by decide +kernel), uN_lN (by omega)]
    omega
  rw [uN_255, hs]
  have h1 : (x >>> lN k).toBitVec = x.toBitVec.sshiftRight' ((lN k).toBitVec.smod 64) := rfl
  have h2 : (lN k).toBitVec.smod 64 = BitVec.ofNat 64 k := by
    have : ∀ j : Fin 57, (BitVec.ofNat 64 j.val).smod 64 = BitVec.ofNat 64 j.val := by decide +kernel
    exact this ⟨k, by omega⟩
  rw [uN_tb, h1, h2, uN_tb]
  apply Nat.eq_of_testBit_eq
  intro i
  rw [show (256 : Nat) = 2 ^ 8 from rfl, Nat.testBit_mod_two_pow, Nat.testBit_mod_two_pow, Nat.testBit_div_two_pow]
  by_cases hi : i < 8
  · simp only [hi, decide_true, Bool.true_and]
    have e1 : (x.toBitVec.sshiftRight' (BitVec.ofNat 64 k)).toNat.testBit i = (x.toBitVec.sshiftRight' (BitVec.ofNat 64 k)).getLsbD i := rfl
    have e2 : x.toBitVec.toNat.testBit (i + k) = x.toBitVec.getLsbD (i + k) := rfl
    rw [e1, e2, BitVec.sshiftRight', BitVec.getLsbD_sshiftRight]
    have hk9 : (BitVec.ofNat 64 k).toNat = k := by rw [BitVec.toNat_ofNat]; omega
    rw [hk9]
    have h64 : ¬ 64 ≤ i := by omega
    have h65 : k + i < 64 := by omega
    simp [h64, h65, Nat.add_comm]
  · simp [hi]
theorem oB_t {P : Prop} (h : P) : (Sum.inl (some (Value.int (bI P))) : Oc) = .inl (some (.int (nI 1))) := by rw [bI_t h]
theorem oB_f {P : Prop} (h : ¬ P) : (Sum.inl (some (Value.int (bI P))) : Oc) = .inl (some (.int (nI 0))) := by rw [bI_f h]
section XP
variable {G : Gd} {y : Mt} {d kf : Nat} {Z : Zt} {k pc n t : Nat} {lv lv' : List (Nat × Value)} {st : List Value} {M M' : Mm}
theorem x_pick (ks : List Nat) (hp : lv_pick lv ks = lv') (kk : Fr G y d kf Z k pc lv' st M) : Fr G y d kf Z k pc lv st M :=
  fun p e R s m args below meth c H locs ls C hx hH hL => kk p e R s m args below meth c H locs ls C hx hH (lv_sub hL ks hp)
end XP
/-- a text: at most n characters, each 1 .. 126, the first one lowest -/
def txN : Nat → Nat → Prop
  | 0, u => u = 0
  | n + 1, u => u = 0 ∨ ((u % 256 ≠ 0 ∧ u % 256 ≤ 126) ∧ txN n (u / 256))
def isTx (t : Int64) : Prop := txN 7 (uN t)
theorem b255_0 (x : Int64) : (x &&& 255) = 0 ↔ uN x % 256 = 0 := by rw [uN_eq0, uN_255]
theorem b255_126 (x : Int64) : (x &&& 255) ≤ 126 ↔ uN x % 256 ≤ 126 := by
  rw [le_small (by rw [uN_255]; omega) (by decide +kernel), uN_255, show uN 126 = 126 from by decide +kernel]
theorem ush8 (x : Int64) : uN (x.toUInt64 >>> ((nI 8).toInt64.toUInt64 &&& Int64.toUInt64 63)).toInt64 = uN x / 256 := uN_sk x (by decide)
section C3
variable {G : Gd} {d : Nat} {M : Mm}
set_option maxHeartbeats 4000000 in
theorem l_isText (t : Int64) : ∀ (n i : Nat) (r : Int64), i + n = 7 → Fr G mX8_isText d 0 (Zm G (.inl (some (.int (bI (txN n (uN r)))))) M 0) 0 5 [(0, .long (t)), (2, .long (r)), (4, .int (nI i))] [] M := by
  intro n
  induction n with
  | zero =>
    intro i r hi
    refine x_iload rfl rfl rfl ?_
    refine x_bipush (v := nI 7) rfl rfl (by decide +kernel) ?_
    refine x_icmpN_ge (by omega) (by omega) rfl rfl (fun hc1 => ?_) (fun hc1 => absurd hc1 (by omega))
    refine x_lload_n rfl rfl rfl ?_
    refine x_lconst (v := 0) rfl rfl (by decide +kernel) ?_
    refine x_lc_ne rfl rfl rfl rfl (fun hc2 => ?_) (fun hc2 => ?_)
    · refine x_iconstN (b := 0) rfl rfl ?_
      exact x_retZ rfl rfl rfl (by first | exact Or.inl rfl | exact Or.inr rfl) (by omega) (oB_f (fun z => hc2 ((uN_eq0 r).mpr z))) rfl
    · refine x_iconstN (b := 1) rfl rfl ?_
      refine x_goto rfl rfl ?_
      exact x_retZ rfl rfl rfl (by first | exact Or.inl rfl | exact Or.inr rfl) (by omega) (oB_t ((uN_eq0 r).mp hc2)) rfl
  | succ n ih =>
    intro i r hi
    refine x_iload rfl rfl rfl ?_
    refine x_bipush (v := nI 7) rfl rfl (by decide +kernel) ?_
    refine x_icmpN_ge (by omega) (by omega) rfl rfl (fun hc1 => absurd hc1 (by omega)) (fun hc1 => ?_)
    refine x_lload_n rfl rfl rfl ?_
    refine x_lconst (v := 0) rfl rfl (by decide +kernel) ?_
    refine x_lc_eq rfl rfl rfl rfl (fun hc2 => ?_) (fun hc2 => ?_)
    · refine x_lload_n rfl rfl rfl ?_
      refine x_lconst (v := 0) rfl rfl (by decide +kernel) ?_
      refine x_lc_ne rfl rfl rfl rfl (fun hc3 => absurd hc2 hc3) (fun hc3 => ?_)
      refine x_iconstN (b := 1) rfl rfl ?_
      refine x_goto rfl rfl ?_
      exact x_retZ rfl rfl rfl (by first | exact Or.inl rfl | exact Or.inr rfl) (by omega) (oB_t (Or.inl ((uN_eq0 r).mp hc2))) rfl
    · refine x_lload_n rfl rfl rfl ?_
      refine x_ldc2 (v := 255) rfl rfl k_8_95 ?_
      refine x_land rfl rfl ?_
      refine x_lstore rfl rfl rfl rfl ?_
      refine x_lload rfl rfl rfl ?_
      refine x_lconst (v := 0) rfl rfl (by decide +kernel) ?_
      refine x_lc_eq rfl rfl rfl rfl (fun hc4 => ?_) (fun hc4 => ?_)
      · refine x_iconstN (b := 0) rfl rfl ?_
        exact x_retZ rfl rfl rfl (by first | exact Or.inl rfl | exact Or.inr rfl) (by omega) (oB_f (fun z => z.elim (fun z => hc2 ((uN_eq0 r).mpr z)) (fun z => z.1.1 ((b255_0 r).mp hc4)))) rfl
      · refine x_lload rfl rfl rfl ?_
        refine x_ldc2 (v := 126) rfl rfl k_8_242 ?_
        refine x_lc_le rfl rfl rfl rfl (fun hc5 => ?_) (fun hc5 => ?_)
        · refine x_lload_n rfl rfl rfl ?_
          refine x_bipush (v := nI 8) rfl rfl (by decide +kernel) ?_
          refine x_lushr rfl rfl ?_
          refine x_lstore_n rfl rfl rfl rfl ?_
          refine x_iincN (a := i) (b := 1) rfl rfl rfl rfl rfl ?_
          refine x_goto rfl rfl ?_
          refine x_pick [0, 1, 2] rfl ?_
          (have hz := ih (i + 1) (((r).toUInt64 >>> ((nI 8).toInt64.toUInt64 &&& Int64.toUInt64 63)).toInt64) (by omega); rw [ush8 r] at hz; rw [bI_iff (show txN (n + 1) (uN r) ↔ txN n (uN r / 256) from ⟨fun z => z.elim (fun z => absurd ((uN_eq0 r).mpr z) hc2) (fun z => z.2), fun z => Or.inr ⟨⟨fun z2 => hc4 ((b255_0 r).mpr z2), (b255_126 r).mp hc5⟩, z⟩⟩)]; exact hz)
        · refine x_iconstN (b := 0) rfl rfl ?_
          exact x_retZ rfl rfl rfl (by first | exact Or.inl rfl | exact Or.inr rfl) (by omega) (oB_f (fun z => z.elim (fun z => hc2 ((uN_eq0 r).mpr z)) (fun z => hc5 ((b255_126 r).mpr z.1.2)))) rfl
set_option maxHeartbeats 4000000 in
set_option maxRecDepth 20000 in
theorem c_isText (hG : Gok G) (t : Int64) : Ct G mX8_isText d [.long (t)] M (.inl (some (.int (bI (isTx t))))) M 0 := by
  refine ct_of hG okX8_isText (by decide +kernel) rfl (Nat.le_of_ble_eq_true rfl) ?_
  refine x_lload_n rfl rfl rfl ?_
  refine x_lstore_n rfl rfl rfl rfl ?_
  refine x_iconstN (b := 0) rfl rfl ?_
  refine x_istore rfl rfl rfl rfl ?_
  exact l_isText t 7 0 t (by omega)
set_option maxHeartbeats 4000000 in
set_option maxRecDepth 20000 in
theorem c_isThing (hG : Gok G) (a : Int64) {n : Nat} (hn : M.1 (1, 0) 5 = nI n) (hn2 : n ≤ 40) : Ct G mX4_isThing d [.ref (ga G (1, 0)), .long (a)] M (.inl (some (.int (bI (¬ a < 0 ∧ a < lN n))))) M 0 := by
  refine ct_of hG okX4_isThing (by decide +kernel) rfl (Nat.le_of_ble_eq_true rfl) ?_
  refine x_lload_n rfl rfl rfl ?_
  refine x_lconst (v := 0) rfl rfl (by decide +kernel) ?_
  refine x_lc_lt rfl rfl rfl rfl (fun hc1 => ?_) (fun hc1 => ?_)
  · refine x_iconstN (b := 0) rfl rfl ?_
    exact x_retZ rfl rfl rfl (by first | exact Or.inl rfl | exact Or.inr rfl) (by omega) (oB_f (fun z => z.1 hc1)) rfl
  · refine x_lload_n rfl rfl rfl ?_
    refine x_aload_n rfl rfl rfl ?_
    refine x_getIv (v := nI n) hn rfl rfl f_4_36 rfl (by decide) rfl ?_
    refine x_i2lN (a := n) (by omega) rfl rfl ?_
    refine x_lc_ge rfl rfl rfl rfl (fun hc2 => ?_) (fun hc2 => ?_)
    · refine x_iconstN (b := 0) rfl rfl ?_
      exact x_retZ rfl rfl rfl (by first | exact Or.inl rfl | exact Or.inr rfl) (by omega) (oB_f (fun z => hc2 z.2)) rfl
    · refine x_iconstN (b := 1) rfl rfl ?_
      refine x_goto rfl rfl ?_
      exact x_retZ rfl rfl rfl (by first | exact Or.inl rfl | exact Or.inr rfl) (by omega) (oB_t ⟨hc1, hc2⟩) rfl
end C3
end
section
def sh4 (v : Int64) : Int64 := v >>> ((nI 4).toInt64 &&& 63)
theorem l2i_small {x : Int64} (h : uN x < 2147483648) : x.toInt32 = nI (uN x) := by
  have h1 : x = lN (uN x) := (lN_uN x).symm
  rw [h1, uN_lN (by omega)]
  exact lN_i (uN x)
theorem kd_eq (v : Int64) : (v &&& 15).toInt32 = nI (uN v % 16) := by
  rw [l2i_small (by rw [uN_15]; omega), uN_15]
/-- a value, where there are w wide numbers and n things -/
def isV (w n : Nat) (v : Int64) : Prop :=
  (uN v % 16 = 4 ∧ ¬ sh4 v < -268435456 ∧ sh4 v < 268435456) ∨ (uN v % 16 = 5 ∧ ¬ sh4 v < 0 ∧ sh4 v < lN w) ∨ (uN v % 16 = 6 ∧ isTx (sh4 v)) ∨ (uN v % 16 = 7 ∧ ¬ sh4 v < 0 ∧ sh4 v < lN n) ∨ (uN v % 16 ≤ 3 ∧ sh4 v = 0)
theorem isV_4 {w n : Nat} {v : Int64} (h : uN v % 16 = 4) : isV w n v ↔ (¬ sh4 v < -268435456 ∧ sh4 v < 268435456) := by unfold isV; rw [h]; simp
theorem isV_5 {w n : Nat} {v : Int64} (h : uN v % 16 = 5) : isV w n v ↔ (¬ sh4 v < 0 ∧ sh4 v < lN w) := by unfold isV; rw [h]; simp
theorem isV_6 {w n : Nat} {v : Int64} (h : uN v % 16 = 6) : isV w n v ↔ isTx (sh4 v) := by unfold isV; rw [h]; simp
theorem isV_7 {w n : Nat} {v : Int64} (h : uN v % 16 = 7) : isV w n v ↔ (¬ sh4 v < 0 ∧ sh4 v < lN n) := by unfold isV; rw [h]; simp
theorem isV_O {w n : Nat} {v : Int64} (h4 : ¬ uN v % 16 = 4) (h5 : ¬ uN v % 16 = 5) (h6 : ¬ uN v % 16 = 6) (h7 : ¬ uN v % 16 = 7) : isV w n v ↔ (uN v % 16 ≤ 3 ∧ sh4 v = 0) := by unfold isV; simp [h4, h5, h6, h7]
section C4
variable {G : Gd} {d : Nat} {M : Mm}
set_option maxHeartbeats 4000000 in
set_option maxRecDepth 20000 in
theorem c_isValue (hG : Gok G) (hd : 1 ≤ d) (v : Int64) {n w : Nat} (hn : M.1 (1, 0) 5 = nI n) (hn2 : n ≤ 40) (hw : M.1 (1, 0) 3 = nI w) (hw2 : w ≤ 40) : Ct G mX4_isValue d [.ref (ga G (1, 0)), .long (v)] M (.inl (some (.int (bI (isV w n v))))) M 0 := by
  refine ct_of hG okX4_isValue (by decide +kernel) rfl (Nat.le_of_ble_eq_true rfl) ?_
  refine x_lload_n rfl rfl rfl ?_
  refine x_callSi (d2 := 0) (c_kindOf hG (v)) rfl rfl s_4_39 rfl rfl (Nat.le_of_ble_eq_true rfl) (by omega) (by omega) ?_
  refine x_topI (v := nI (uN v % 16)) (kd_eq _) ?_
  refine x_istore_n rfl rfl rfl rfl ?_
  refine x_lload_n rfl rfl rfl ?_
  refine x_callSl (d2 := 0) (c_aboveKind hG (v)) rfl rfl s_4_43 rfl rfl (Nat.le_of_ble_eq_true rfl) (by omega) (by omega) ?_
  refine x_topL (v := sh4 v) rfl ?_
  refine x_lstore rfl rfl rfl rfl ?_
  refine x_iload_n rfl rfl rfl ?_
  by_cases hs4 : uN v % 16 = 4
  · rw [hs4]
    refine x_swIn (off := 32) (tg := 44) rfl (by decide +kernel) (by decide +kernel) rfl (by decide) ?_
    refine x_lload rfl rfl rfl ?_
    refine x_ldc2 (v := -268435456) rfl rfl k_4_47 ?_
    refine x_lc_lt rfl rfl rfl rfl (fun hc1 => ?_) (fun hc1 => ?_)
    · refine x_iconstN (b := 0) rfl rfl ?_
      (rw [bI_iff (isV_4 hs4)]; exact x_retZ rfl rfl rfl (by first | exact Or.inl rfl | exact Or.inr rfl) (by omega) (oB_f (fun z => z.1 hc1)) rfl)
    · refine x_lload rfl rfl rfl ?_
      refine x_ldc2 (v := 268435456) rfl rfl k_4_49 ?_
      refine x_lc_ge rfl rfl rfl rfl (fun hc2 => ?_) (fun hc2 => ?_)
      · refine x_iconstN (b := 0) rfl rfl ?_
        (rw [bI_iff (isV_4 hs4)]; exact x_retZ rfl rfl rfl (by first | exact Or.inl rfl | exact Or.inr rfl) (by omega) (oB_f (fun z => hc2 z.2)) rfl)
      · refine x_iconstN (b := 1) rfl rfl ?_
        refine x_goto rfl rfl ?_
        (rw [bI_iff (isV_4 hs4)]; exact x_retZ rfl rfl rfl (by first | exact Or.inl rfl | exact Or.inr rfl) (by omega) (oB_t ⟨hc1, hc2⟩) rfl)
  by_cases hs5 : uN v % 16 = 5
  · rw [hs5]
    refine x_swIn (off := 56) (tg := 68) rfl (by decide +kernel) (by decide +kernel) rfl (by decide) ?_
    refine x_lload rfl rfl rfl ?_
    refine x_lconst (v := 0) rfl rfl (by decide +kernel) ?_
    refine x_lc_lt rfl rfl rfl rfl (fun hc3 => ?_) (fun hc3 => ?_)
    · refine x_iconstN (b := 0) rfl rfl ?_
      (rw [bI_iff (isV_5 hs5)]; exact x_retZ rfl rfl rfl (by first | exact Or.inl rfl | exact Or.inr rfl) (by omega) (oB_f (fun z => z.1 hc3)) rfl)
    · refine x_lload rfl rfl rfl ?_
      refine x_aload_n rfl rfl rfl ?_
      refine x_getIv (v := nI w) hw rfl rfl f_4_29 rfl (by decide) rfl ?_
      refine x_i2lN (a := w) (by omega) rfl rfl ?_
      refine x_lc_ge rfl rfl rfl rfl (fun hc4 => ?_) (fun hc4 => ?_)
      · refine x_iconstN (b := 0) rfl rfl ?_
        (rw [bI_iff (isV_5 hs5)]; exact x_retZ rfl rfl rfl (by first | exact Or.inl rfl | exact Or.inr rfl) (by omega) (oB_f (fun z => hc4 z.2)) rfl)
      · refine x_iconstN (b := 1) rfl rfl ?_
        refine x_goto rfl rfl ?_
        (rw [bI_iff (isV_5 hs5)]; exact x_retZ rfl rfl rfl (by first | exact Or.inl rfl | exact Or.inr rfl) (by omega) (oB_t ⟨hc3, hc4⟩) rfl)
  by_cases hs6 : uN v % 16 = 6
  · rw [hs6]
    refine x_swIn (off := 80) (tg := 92) rfl (by decide +kernel) (by decide +kernel) rfl (by decide) ?_
    refine x_lload rfl rfl rfl ?_
    refine x_callSi (d2 := 0) (c_isText hG (sh4 v)) rfl rfl s_4_51 rfl rfl (Nat.le_of_ble_eq_true rfl) (by omega) (by omega) ?_
    (rw [bI_iff (isV_6 hs6)]; exact x_retZ rfl rfl rfl (bI_01 _) (by omega) rfl rfl)
  by_cases hs7 : uN v % 16 = 7
  · rw [hs7]
    refine x_swIn (off := 86) (tg := 98) rfl (by decide +kernel) (by decide +kernel) rfl (by decide) ?_
    refine x_aload_n rfl rfl rfl ?_
    refine x_lload rfl rfl rfl ?_
    refine x_callVi (d2 := 0) (c_isThing hG (sh4 v) hn hn2) rfl rfl v_4_55 rfl rfl (by decide) rfl rfl (Nat.le_of_ble_eq_true rfl) (by omega) (by omega) ?_
    (rw [bI_iff (isV_7 hs7)]; exact x_retZ rfl rfl rfl (bI_01 _) (by omega) rfl rfl)
  refine x_swOut (tg := 105) rfl (by rw [nI_toInt (by omega)]; omega) (by decide) ?_
  refine x_iload_n rfl rfl rfl ?_
  refine x_iconstN (b := 3) rfl rfl ?_
  refine x_icmpN_gt (by omega) (by omega) rfl rfl (fun hc5 => ?_) (fun hc5 => ?_)
  · refine x_iconstN (b := 0) rfl rfl ?_
    (rw [bI_iff (isV_O hs4 hs5 hs6 hs7)]; exact x_retZ rfl rfl rfl (by first | exact Or.inl rfl | exact Or.inr rfl) (by omega) (oB_f (fun z => by omega)) rfl)
  · refine x_lload rfl rfl rfl ?_
    refine x_lconst (v := 0) rfl rfl (by decide +kernel) ?_
    refine x_lc_ne rfl rfl rfl rfl (fun hc6 => ?_) (fun hc6 => ?_)
    · refine x_iconstN (b := 0) rfl rfl ?_
      (rw [bI_iff (isV_O hs4 hs5 hs6 hs7)]; exact x_retZ rfl rfl rfl (by first | exact Or.inl rfl | exact Or.inr rfl) (by omega) (oB_f (fun z => hc6 z.2)) rfl)
    · refine x_iconstN (b := 1) rfl rfl ?_
      refine x_goto rfl rfl ?_
      (rw [bI_iff (isV_O hs4 hs5 hs6 hs7)]; exact x_retZ rfl rfl rfl (by first | exact Or.inl rfl | exact Or.inr rfl) (by omega) (oB_t ⟨by omega, hc6⟩) rfl)
set_option maxHeartbeats 4000000 in
set_option maxRecDepth 20000 in
theorem c_refuse0 (hG : Gok G) {n : Nat} (hn : M.1 (1, 0) 5 = nI n) (hn2 : n < 40) : Ct G mX8_refuseFortyFirst d [.ref (ga G (0, 0))] M (.inl none) M 0 := by
  refine ct_of hG okX8_refuseFortyFirst (by decide +kernel) rfl (Nat.le_of_ble_eq_true rfl) ?_
  refine x_aload_n rfl rfl rfl ?_
  refine x_getR0 rfl rfl f_8_20 rfl (by decide) rfl rfl ?_
  refine x_getIv (v := nI n) hn rfl rfl f_8_207 rfl (by decide) rfl ?_
  refine x_bipush (v := nI 40) rfl rfl (by decide +kernel) ?_
  refine x_icmpN_ne (by omega) (by omega) rfl rfl (fun hc1 => ?_) (fun hc1 => absurd hc1 (by omega))
  exact x_retV rfl rfl rfl (by omega) rfl rfl
set_option maxHeartbeats 4000000 in
set_option maxRecDepth 20000 in
theorem c_refuse1 (hG : Gok G) (hd : 6 ≤ d) (hn : M.1 (1, 0) 5 = nI 40) : Ct G mX8_refuseFortyFirst d [.ref (ga G (0, 0))] M (.inr "java/lang/IllegalStateException") M 1 := by
  refine ct_of hG okX8_refuseFortyFirst (by decide +kernel) rfl (Nat.le_of_ble_eq_true rfl) ?_
  refine x_aload_n rfl rfl rfl ?_
  refine x_getR0 rfl rfl f_8_20 rfl (by decide) rfl rfl ?_
  refine x_getIv (v := nI 40) hn rfl rfl f_8_207 rfl (by decide) rfl ?_
  refine x_bipush (v := nI 40) rfl rfl (by decide +kernel) ?_
  refine x_icmpN_ne (by omega) (by omega) rfl rfl (fun hc1 => absurd rfl hc1) (fun hc1 => ?_)
  exact x_throw rfl rfl rfl rfl rfl rfl rfl rfl th_8_61_63 (Nat.le_of_ble_eq_true rfl) (by omega) (by omega)
set_option maxHeartbeats 4000000 in
set_option maxRecDepth 20000 in
theorem c_makeThing (hG : Gok G) (hd : 2 ≤ d) (kd : Int32) {n : Nat} (hn : M.1 (1, 0) 5 = nI n) (hn2 : n < 40) : Ct G mX4_makeThing d [.ref (ga G (1, 0)), .int (kd)] M (.inl (some (.int (nI n)))) (ui (ui (ui (ui (ul (ui (ui M (8, n) 3 (kd)) (8, n) 4 (-1)) (8, n) 5 0) (9, n) 1 (nI 0)) (11, n) 1 (nI 0)) (13, n) 1 (nI 0)) (1, 0) 5 (nI (n + 1))) 0 := by
  refine ct_of hG okX4_makeThing (by decide +kernel) rfl (Nat.le_of_ble_eq_true rfl) ?_
  refine x_aload_n rfl rfl rfl ?_
  refine x_getR0 rfl rfl f_4_23 rfl (by decide) rfl rfl ?_
  refine x_aload_n rfl rfl rfl ?_
  refine x_getIv (v := nI n) hn rfl rfl f_4_36 rfl (by decide) rfl ?_
  refine x_aaldi (a := n) rfl rfl rfl (by decide) (by decide) (by omega) (by decide) rfl ?_
  refine x_iload_n rfl rfl rfl ?_
  refine x_callVv (d2 := 1) (c_Th_become hG (Nat.le_refl 1) (by omega) (kd)) rfl rfl v_4_58 rfl rfl (by show _ < 40; omega) rfl rfl (Nat.le_of_ble_eq_true rfl) (by omega) (by omega) ?_
  refine x_aload_n rfl rfl rfl ?_
  refine x_dup rfl rfl rfl ?_
  refine x_getIv (v := nI n) (by first | exact hn | (rw [← hn]; rfl) | simp [ui, ul, hn]) rfl rfl f_4_36 rfl (by decide) rfl ?_
  refine x_iconstN (b := 1) rfl rfl ?_
  refine x_iaddN (a := n) (b := 1) rfl rfl ?_
  refine x_putI rfl rfl f_4_36 rfl rfl (by decide) rfl ?_
  refine x_aload_n rfl rfl rfl ?_
  refine x_getIv (v := nI (n + 1)) (by first | rfl | simp [ui, ul]) rfl rfl f_4_36 rfl (by decide) rfl ?_
  refine x_iconstN (b := 1) rfl rfl ?_
  refine x_isubN (a := n + 1) (b := 1) (by omega) rfl rfl ?_
  exact x_retI rfl rfl rfl (by omega) rfl rfl
set_option maxHeartbeats 4000000 in
set_option maxRecDepth 20000 in
theorem c_giveTraits0 (hG : Gok G) (hd : 1 ≤ d) {i t : Nat} (hi : i < 40) (ht : t < 13) (h0 : M.1 (9, i) 1 = nI 0) (hm : M.1 (6, t) 1 = nI 0) : Ct G mX4_giveTraits d [.ref (ga G (1, 0)), .ref (ga G (8, i)), .int (nI t)] M (.inl none) (ui M (8, i) 4 (nI t)) 0 := by
  refine ct_of hG okX4_giveTraits (by decide +kernel) rfl (Nat.le_of_ble_eq_true rfl) ?_
  refine x_aload_n rfl rfl rfl ?_
  refine x_iload_n rfl rfl rfl ?_
  refine x_putI rfl rfl f_4_62 rfl rfl (by show _ < 40; omega) rfl ?_
  refine x_iconstN (b := 0) rfl rfl ?_
  refine x_istore_n rfl rfl rfl rfl ?_
  refine x_iload_n rfl rfl rfl ?_
  refine x_aload_n rfl rfl rfl ?_
  refine x_getR0 rfl rfl f_4_17 rfl (by decide) rfl rfl ?_
  refine x_iload_n rfl rfl rfl ?_
  refine x_aaldi (a := t) rfl rfl rfl (by decide) (by decide) (by omega) (by decide) rfl ?_
  refine x_getRi rfl rfl f_4_64 rfl (by show _ < 13; omega) rfl rfl ?_
  refine x_getIv (v := nI 0) (by first | exact hm | (rw [← hm]; rfl) | simp [ui, ul, hm]) rfl rfl f_4_68 rfl (by show _ < 13; omega) rfl ?_
  refine x_icmpN_ge (by omega) (by omega) rfl rfl (fun hc1 => ?_) (fun hc1 => absurd hc1 (by omega))
  exact x_retV rfl rfl rfl (by omega) rfl rfl
set_option maxHeartbeats 4000000 in
set_option maxRecDepth 20000 in
theorem c_giveTraits1 (hG : Gok G) (hd : 1 ≤ d) {i t : Nat} (hi : i < 40) (ht : t < 13) (h0 : M.1 (9, i) 1 = nI 0) (hm : M.1 (6, t) 1 = nI 1) : Ct G mX4_giveTraits d [.ref (ga G (1, 0)), .ref (ga G (8, i)), .int (nI t)] M (.inl none) (ui (ul (ui M (8, i) 4 (nI t)) (10, i) 0 0) (9, i) 1 (nI 1)) 0 := by
  refine ct_of hG okX4_giveTraits (by decide +kernel) rfl (Nat.le_of_ble_eq_true rfl) ?_
  refine x_aload_n rfl rfl rfl ?_
  refine x_iload_n rfl rfl rfl ?_
  refine x_putI rfl rfl f_4_62 rfl rfl (by show _ < 40; omega) rfl ?_
  refine x_iconstN (b := 0) rfl rfl ?_
  refine x_istore_n rfl rfl rfl rfl ?_
  refine x_iload_n rfl rfl rfl ?_
  refine x_aload_n rfl rfl rfl ?_
  refine x_getR0 rfl rfl f_4_17 rfl (by decide) rfl rfl ?_
  refine x_iload_n rfl rfl rfl ?_
  refine x_aaldi (a := t) rfl rfl rfl (by decide) (by decide) (by omega) (by decide) rfl ?_
  refine x_getRi rfl rfl f_4_64 rfl (by show _ < 13; omega) rfl rfl ?_
  refine x_getIv (v := nI 1) (by first | exact hm | (rw [← hm]; rfl) | simp [ui, ul, hm]) rfl rfl f_4_68 rfl (by show _ < 13; omega) rfl ?_
  refine x_icmpN_ge (by omega) (by omega) rfl rfl (fun hc1 => absurd hc1 (by omega)) (fun hc1 => ?_)
  refine x_aload_n rfl rfl rfl ?_
  refine x_getRi rfl rfl f_4_73 rfl (by show _ < 40; omega) rfl rfl ?_
  refine x_lconst (v := 0) rfl rfl (by decide +kernel) ?_
  refine x_callVv (d2 := 0) (c_LL_add (len := 0) hG (lk_9 (by omega)) (0) (by first | exact h0 | (rw [← h0]; rfl) | simp [ui, ul, h0]) (by omega)) rfl rfl v_4_76 rfl rfl (by show _ < 40; omega) rfl rfl (Nat.le_of_ble_eq_true rfl) (by omega) (by omega) ?_
  refine x_iincN (a := 0) (b := 1) rfl rfl rfl rfl rfl ?_
  refine x_goto rfl rfl ?_
  refine x_iload_n rfl rfl rfl ?_
  refine x_aload_n rfl rfl rfl ?_
  refine x_getR0 rfl rfl f_4_17 rfl (by decide) rfl rfl ?_
  refine x_iload_n rfl rfl rfl ?_
  refine x_aaldi (a := t) rfl rfl rfl (by decide) (by decide) (by omega) (by decide) rfl ?_
  refine x_getRi rfl rfl f_4_64 rfl (by show _ < 13; omega) rfl rfl ?_
  refine x_getIv (v := nI 1) (by first | exact hm | (rw [← hm]; rfl) | simp [ui, ul, hm]) rfl rfl f_4_68 rfl (by show _ < 13; omega) rfl ?_
  refine x_icmpN_ge (by omega) (by omega) rfl rfl (fun hc2 => ?_) (fun hc2 => absurd hc2 (by omega))
  exact x_retV rfl rfl rfl (by omega) rfl rfl
set_option maxHeartbeats 4000000 in
set_option maxRecDepth 20000 in
theorem c_giveTraits2 (hG : Gok G) (hd : 1 ≤ d) {i t : Nat} (hi : i < 40) (ht : t < 13) (h0 : M.1 (9, i) 1 = nI 0) (hm : M.1 (6, t) 1 = nI 2) : Ct G mX4_giveTraits d [.ref (ga G (1, 0)), .ref (ga G (8, i)), .int (nI t)] M (.inl none) (ui (ul (ui (ul (ui M (8, i) 4 (nI t)) (10, i) 0 0) (9, i) 1 (nI 1)) (10, i) 1 0) (9, i) 1 (nI 2)) 0 := by
  refine ct_of hG okX4_giveTraits (by decide +kernel) rfl (Nat.le_of_ble_eq_true rfl) ?_
  refine x_aload_n rfl rfl rfl ?_
  refine x_iload_n rfl rfl rfl ?_
  refine x_putI rfl rfl f_4_62 rfl rfl (by show _ < 40; omega) rfl ?_
  refine x_iconstN (b := 0) rfl rfl ?_
  refine x_istore_n rfl rfl rfl rfl ?_
  refine x_iload_n rfl rfl rfl ?_
  refine x_aload_n rfl rfl rfl ?_
  refine x_getR0 rfl rfl f_4_17 rfl (by decide) rfl rfl ?_
  refine x_iload_n rfl rfl rfl ?_
  refine x_aaldi (a := t) rfl rfl rfl (by decide) (by decide) (by omega) (by decide) rfl ?_
  refine x_getRi rfl rfl f_4_64 rfl (by show _ < 13; omega) rfl rfl ?_
  refine x_getIv (v := nI 2) (by first | exact hm | (rw [← hm]; rfl) | simp [ui, ul, hm]) rfl rfl f_4_68 rfl (by show _ < 13; omega) rfl ?_
  refine x_icmpN_ge (by omega) (by omega) rfl rfl (fun hc1 => absurd hc1 (by omega)) (fun hc1 => ?_)
  refine x_aload_n rfl rfl rfl ?_
  refine x_getRi rfl rfl f_4_73 rfl (by show _ < 40; omega) rfl rfl ?_
  refine x_lconst (v := 0) rfl rfl (by decide +kernel) ?_
  refine x_callVv (d2 := 0) (c_LL_add (len := 0) hG (lk_9 (by omega)) (0) (by first | exact h0 | (rw [← h0]; rfl) | simp [ui, ul, h0]) (by omega)) rfl rfl v_4_76 rfl rfl (by show _ < 40; omega) rfl rfl (Nat.le_of_ble_eq_true rfl) (by omega) (by omega) ?_
  refine x_iincN (a := 0) (b := 1) rfl rfl rfl rfl rfl ?_
  refine x_goto rfl rfl ?_
  refine x_iload_n rfl rfl rfl ?_
  refine x_aload_n rfl rfl rfl ?_
  refine x_getR0 rfl rfl f_4_17 rfl (by decide) rfl rfl ?_
  refine x_iload_n rfl rfl rfl ?_
  refine x_aaldi (a := t) rfl rfl rfl (by decide) (by decide) (by omega) (by decide) rfl ?_
  refine x_getRi rfl rfl f_4_64 rfl (by show _ < 13; omega) rfl rfl ?_
  refine x_getIv (v := nI 2) (by first | exact hm | (rw [← hm]; rfl) | simp [ui, ul, hm]) rfl rfl f_4_68 rfl (by show _ < 13; omega) rfl ?_
  refine x_icmpN_ge (by omega) (by omega) rfl rfl (fun hc2 => absurd hc2 (by omega)) (fun hc2 => ?_)
  refine x_aload_n rfl rfl rfl ?_
  refine x_getRi rfl rfl f_4_73 rfl (by show _ < 40; omega) rfl rfl ?_
  refine x_lconst (v := 0) rfl rfl (by decide +kernel) ?_
  refine x_callVv (d2 := 0) (c_LL_add (len := 1) hG (lk_9 (by omega)) (0) (by first | rfl | simp [ui, ul]) (by omega)) rfl rfl v_4_76 rfl rfl (by show _ < 40; omega) rfl rfl (Nat.le_of_ble_eq_true rfl) (by omega) (by omega) ?_
  refine x_iincN (a := 1) (b := 1) rfl rfl rfl rfl rfl ?_
  refine x_goto rfl rfl ?_
  refine x_iload_n rfl rfl rfl ?_
  refine x_aload_n rfl rfl rfl ?_
  refine x_getR0 rfl rfl f_4_17 rfl (by decide) rfl rfl ?_
  refine x_iload_n rfl rfl rfl ?_
  refine x_aaldi (a := t) rfl rfl rfl (by decide) (by decide) (by omega) (by decide) rfl ?_
  refine x_getRi rfl rfl f_4_64 rfl (by show _ < 13; omega) rfl rfl ?_
  refine x_getIv (v := nI 2) (by first | exact hm | (rw [← hm]; rfl) | simp [ui, ul, hm]) rfl rfl f_4_68 rfl (by show _ < 13; omega) rfl ?_
  refine x_icmpN_ge (by omega) (by omega) rfl rfl (fun hc3 => ?_) (fun hc3 => absurd hc3 (by omega))
  exact x_retV rfl rfl rfl (by omega) rfl rfl
set_option maxHeartbeats 4000000 in
set_option maxRecDepth 20000 in
theorem c_giveTraits3 (hG : Gok G) (hd : 1 ≤ d) {i t : Nat} (hi : i < 40) (ht : t < 13) (h0 : M.1 (9, i) 1 = nI 0) (hm : M.1 (6, t) 1 = nI 3) : Ct G mX4_giveTraits d [.ref (ga G (1, 0)), .ref (ga G (8, i)), .int (nI t)] M (.inl none) (ui (ul (ui (ul (ui (ul (ui M (8, i) 4 (nI t)) (10, i) 0 0) (9, i) 1 (nI 1)) (10, i) 1 0) (9, i) 1 (nI 2)) (10, i) 2 0) (9, i) 1 (nI 3)) 0 := by
  refine ct_of hG okX4_giveTraits (by decide +kernel) rfl (Nat.le_of_ble_eq_true rfl) ?_
  refine x_aload_n rfl rfl rfl ?_
  refine x_iload_n rfl rfl rfl ?_
  refine x_putI rfl rfl f_4_62 rfl rfl (by show _ < 40; omega) rfl ?_
  refine x_iconstN (b := 0) rfl rfl ?_
  refine x_istore_n rfl rfl rfl rfl ?_
  refine x_iload_n rfl rfl rfl ?_
  refine x_aload_n rfl rfl rfl ?_
  refine x_getR0 rfl rfl f_4_17 rfl (by decide) rfl rfl ?_
  refine x_iload_n rfl rfl rfl ?_
  refine x_aaldi (a := t) rfl rfl rfl (by decide) (by decide) (by omega) (by decide) rfl ?_
  refine x_getRi rfl rfl f_4_64 rfl (by show _ < 13; omega) rfl rfl ?_
  refine x_getIv (v := nI 3) (by first | exact hm | (rw [← hm]; rfl) | simp [ui, ul, hm]) rfl rfl f_4_68 rfl (by show _ < 13; omega) rfl ?_
  refine x_icmpN_ge (by omega) (by omega) rfl rfl (fun hc1 => absurd hc1 (by omega)) (fun hc1 => ?_)
  refine x_aload_n rfl rfl rfl ?_
  refine x_getRi rfl rfl f_4_73 rfl (by show _ < 40; omega) rfl rfl ?_
  refine x_lconst (v := 0) rfl rfl (by decide +kernel) ?_
  refine x_callVv (d2 := 0) (c_LL_add (len := 0) hG (lk_9 (by omega)) (0) (by first | exact h0 | (rw [← h0]; rfl) | simp [ui, ul, h0]) (by omega)) rfl rfl v_4_76 rfl rfl (by show _ < 40; omega) rfl rfl (Nat.le_of_ble_eq_true rfl) (by omega) (by omega) ?_
  refine x_iincN (a := 0) (b := 1) rfl rfl rfl rfl rfl ?_
  refine x_goto rfl rfl ?_
  refine x_iload_n rfl rfl rfl ?_
  refine x_aload_n rfl rfl rfl ?_
  refine x_getR0 rfl rfl f_4_17 rfl (by decide) rfl rfl ?_
  refine x_iload_n rfl rfl rfl ?_
  refine x_aaldi (a := t) rfl rfl rfl (by decide) (by decide) (by omega) (by decide) rfl ?_
  refine x_getRi rfl rfl f_4_64 rfl (by show _ < 13; omega) rfl rfl ?_
  refine x_getIv (v := nI 3) (by first | exact hm | (rw [← hm]; rfl) | simp [ui, ul, hm]) rfl rfl f_4_68 rfl (by show _ < 13; omega) rfl ?_
  refine x_icmpN_ge (by omega) (by omega) rfl rfl (fun hc2 => absurd hc2 (by omega)) (fun hc2 => ?_)
  refine x_aload_n rfl rfl rfl ?_
  refine x_getRi rfl rfl f_4_73 rfl (by show _ < 40; omega) rfl rfl ?_
  refine x_lconst (v := 0) rfl rfl (by decide +kernel) ?_
  refine x_callVv (d2 := 0) (c_LL_add (len := 1) hG (lk_9 (by omega)) (0) (by first | rfl | simp [ui, ul]) (by omega)) rfl rfl v_4_76 rfl rfl (by show _ < 40; omega) rfl rfl (Nat.le_of_ble_eq_true rfl) (by omega) (by omega) ?_
  refine x_iincN (a := 1) (b := 1) rfl rfl rfl rfl rfl ?_
  refine x_goto rfl rfl ?_
  refine x_iload_n rfl rfl rfl ?_
  refine x_aload_n rfl rfl rfl ?_
  refine x_getR0 rfl rfl f_4_17 rfl (by decide) rfl rfl ?_
  refine x_iload_n rfl rfl rfl ?_
  refine x_aaldi (a := t) rfl rfl rfl (by decide) (by decide) (by omega) (by decide) rfl ?_
  refine x_getRi rfl rfl f_4_64 rfl (by show _ < 13; omega) rfl rfl ?_
  refine x_getIv (v := nI 3) (by first | exact hm | (rw [← hm]; rfl) | simp [ui, ul, hm]) rfl rfl f_4_68 rfl (by show _ < 13; omega) rfl ?_
  refine x_icmpN_ge (by omega) (by omega) rfl rfl (fun hc3 => absurd hc3 (by omega)) (fun hc3 => ?_)
  refine x_aload_n rfl rfl rfl ?_
  refine x_getRi rfl rfl f_4_73 rfl (by show _ < 40; omega) rfl rfl ?_
  refine x_lconst (v := 0) rfl rfl (by decide +kernel) ?_
  refine x_callVv (d2 := 0) (c_LL_add (len := 2) hG (lk_9 (by omega)) (0) (by first | rfl | simp [ui, ul]) (by omega)) rfl rfl v_4_76 rfl rfl (by show _ < 40; omega) rfl rfl (Nat.le_of_ble_eq_true rfl) (by omega) (by omega) ?_
  refine x_iincN (a := 2) (b := 1) rfl rfl rfl rfl rfl ?_
  refine x_goto rfl rfl ?_
  refine x_iload_n rfl rfl rfl ?_
  refine x_aload_n rfl rfl rfl ?_
  refine x_getR0 rfl rfl f_4_17 rfl (by decide) rfl rfl ?_
  refine x_iload_n rfl rfl rfl ?_
  refine x_aaldi (a := t) rfl rfl rfl (by decide) (by decide) (by omega) (by decide) rfl ?_
  refine x_getRi rfl rfl f_4_64 rfl (by show _ < 13; omega) rfl rfl ?_
  refine x_getIv (v := nI 3) (by first | exact hm | (rw [← hm]; rfl) | simp [ui, ul, hm]) rfl rfl f_4_68 rfl (by show _ < 13; omega) rfl ?_
  refine x_icmpN_ge (by omega) (by omega) rfl rfl (fun hc4 => ?_) (fun hc4 => absurd hc4 (by omega))
  exact x_retV rfl rfl rfl (by omega) rfl rfl
end C4
end
section
section C5
variable {G : Gd} {d : Nat} {M : Mm}
theorem inTh {i n : Nat} (h : i < n) (hn : n ≤ 40) : ¬ lN i < 0 ∧ lN i < lN n :=
  ⟨fun z => absurd ((lN_lt (a := i) (b := 0) (by omega) (by decide)).mp z) (Nat.not_lt_zero _), (lN_lt (by omega) (by omega)).mpr h⟩
theorem i2l_toInt (x : Int32) : x.toInt64.toInt = x.toInt := Int32.toInt_toInt64 x
theorem outTh {th : Int32} {n : Nat} (h : ∀ i, i < n → th ≠ nI i) (hn : n ≤ 40) : ¬ (¬ th.toInt64 < 0 ∧ th.toInt64 < lN n) := by
  rintro ⟨h1, h2⟩
  rw [Int64.lt_iff_toInt_lt, i2l_toInt] at h1 h2
  rw [lN_toInt (by omega)] at h2
  have h0 : (0 : Int64).toInt = 0 := by decide +kernel
  rw [h0] at h1
  have h3 : ¬ th < 0 := by
    rw [Int32.lt_iff_toInt_lt]
    have : (0 : Int32).toInt = 0 := by decide +kernel
    omega
  obtain ⟨j, hj, rfl⟩ := nI_of h3
  rw [nI_toInt hj] at h2
  exact h j (by omega) rfl
set_option maxHeartbeats 4000000 in
set_option maxRecDepth 20000 in
theorem c_chp9 (hG : Gok G) {i : Nat} (hi : i < 40) (hk : M.1 (8, i) 3 = nI 9) : Ct G mX4_canHavePairs d [.ref (ga G (1, 0)), .ref (ga G (8, i))] M (.inl (some (.int (nI 1)))) M 0 := by
  refine ct_of hG okX4_canHavePairs (by decide +kernel) rfl (Nat.le_of_ble_eq_true rfl) ?_
  refine x_aload_n rfl rfl rfl ?_
  refine x_getIv (v := nI 9) hk rfl rfl f_4_84 rfl (by show _ < 40; omega) rfl ?_
  refine x_bipush (v := nI 9) rfl rfl (by decide +kernel) ?_
  refine x_icmpN_eq (by omega) (by omega) rfl rfl (fun hc1 => ?_) (fun hc1 => absurd hc1 (by omega))
  refine x_iconstN (b := 1) rfl rfl ?_
  refine x_goto rfl rfl ?_
  exact x_retZ rfl rfl rfl (Or.inr rfl) (by omega) rfl rfl
set_option maxHeartbeats 4000000 in
set_option maxRecDepth 20000 in
theorem c_chp10 (hG : Gok G) {i t : Nat} (hi : i < 40) (ht : t < 13) (dy : Prop) (hk : M.1 (8, i) 3 = nI 10) (htr : M.1 (8, i) 4 = nI t) (hdy : M.1 (5, t) 2 = bI dy) : Ct G mX4_canHavePairs d [.ref (ga G (1, 0)), .ref (ga G (8, i))] M (.inl (some (.int (bI dy)))) M 0 := by
  refine ct_of hG okX4_canHavePairs (by decide +kernel) rfl (Nat.le_of_ble_eq_true rfl) ?_
  refine x_aload_n rfl rfl rfl ?_
  refine x_getIv (v := nI 10) hk rfl rfl f_4_84 rfl (by show _ < 40; omega) rfl ?_
  refine x_bipush (v := nI 9) rfl rfl (by decide +kernel) ?_
  refine x_icmpN_eq (by omega) (by omega) rfl rfl (fun hc1 => absurd hc1 (by omega)) (fun hc1 => ?_)
  refine x_aload_n rfl rfl rfl ?_
  refine x_getIv (v := nI 10) hk rfl rfl f_4_84 rfl (by show _ < 40; omega) rfl ?_
  refine x_bipush (v := nI 10) rfl rfl (by decide +kernel) ?_
  refine x_icmpN_ne (by omega) (by omega) rfl rfl (fun hc2 => absurd hc2 (by omega)) (fun hc2 => ?_)
  refine x_aload_n rfl rfl rfl ?_
  refine x_getR0 rfl rfl f_4_17 rfl (by decide) rfl rfl ?_
  refine x_aload_n rfl rfl rfl ?_
  refine x_getIv (v := nI t) htr rfl rfl f_4_62 rfl (by show _ < 40; omega) rfl ?_
  refine x_aaldi (a := t) rfl rfl rfl (by decide) (by decide) (by omega) (by decide) rfl ?_
  refine x_getZv (v := bI (dy)) hdy rfl rfl f_4_87 rfl (by show _ < 13; omega) rfl ?_
  refine x_ifB_eq rfl rfl (fun hc3 => ?_) (fun hc3 => ?_)
  · refine x_iconstN (b := 0) rfl rfl ?_
    exact x_retZ rfl rfl rfl (by first | exact Or.inl rfl | exact Or.inr rfl) (by omega) (oB_f hc3) rfl
  · refine x_iconstN (b := 1) rfl rfl ?_
    refine x_goto rfl rfl ?_
    exact x_retZ rfl rfl rfl (by first | exact Or.inl rfl | exact Or.inr rfl) (by omega) (oB_t hc3) rfl
set_option maxHeartbeats 4000000 in
set_option maxRecDepth 20000 in
theorem c_chpO (hG : Gok G) {i kd : Nat} (hi : i < 40) (hkd : kd < 16) (hk : M.1 (8, i) 3 = nI kd) (h9 : kd ≠ 9) (h10 : kd ≠ 10) : Ct G mX4_canHavePairs d [.ref (ga G (1, 0)), .ref (ga G (8, i))] M (.inl (some (.int (nI 0)))) M 0 := by
  refine ct_of hG okX4_canHavePairs (by decide +kernel) rfl (Nat.le_of_ble_eq_true rfl) ?_
  refine x_aload_n rfl rfl rfl ?_
  refine x_getIv (v := nI kd) hk rfl rfl f_4_84 rfl (by show _ < 40; omega) rfl ?_
  refine x_bipush (v := nI 9) rfl rfl (by decide +kernel) ?_
  refine x_icmpN_eq (by omega) (by omega) rfl rfl (fun hc1 => absurd hc1 (by omega)) (fun hc1 => ?_)
  refine x_aload_n rfl rfl rfl ?_
  refine x_getIv (v := nI kd) hk rfl rfl f_4_84 rfl (by show _ < 40; omega) rfl ?_
  refine x_bipush (v := nI 10) rfl rfl (by decide +kernel) ?_
  refine x_icmpN_ne (by omega) (by omega) rfl rfl (fun hc2 => ?_) (fun hc2 => absurd hc2 (by omega))
  refine x_iconstN (b := 0) rfl rfl ?_
  exact x_retZ rfl rfl rfl (Or.inl rfl) (by omega) rfl rfl
set_option maxHeartbeats 4000000 in
set_option maxRecDepth 20000 in
theorem c_isMember10 (hG : Gok G) (hd : 2 ≤ d) {i t m : Nat} (hi : i < 40) (ht : t < 13) (e : Int64) (hk : M.1 (8, i) 3 = nI 10) (htr : M.1 (8, i) 4 = nI t) (hm : M.1 (6, t) 1 = nI m) (hm2 : m ≤ 3) : Ct G mX4_isMember d [.ref (ga G (1, 0)), .ref (ga G (8, i)), .long (e)] M (.inl (some (.int (bI (fx (M.2 (7, t)) e 0 m ≠ none))))) M 0 := by
  refine ct_of hG okX4_isMember (by decide +kernel) rfl (Nat.le_of_ble_eq_true rfl) ?_
  refine x_aload_n rfl rfl rfl ?_
  refine x_getIv (v := nI 10) hk rfl rfl f_4_84 rfl (by show _ < 40; omega) rfl ?_
  refine x_bipush (v := nI 10) rfl rfl (by decide +kernel) ?_
  refine x_icmpN_ne (by omega) (by omega) rfl rfl (fun hc1 => absurd hc1 (by omega)) (fun hc1 => ?_)
  refine x_aload_n rfl rfl rfl ?_
  refine x_getR0 rfl rfl f_4_17 rfl (by decide) rfl rfl ?_
  refine x_aload_n rfl rfl rfl ?_
  refine x_getIv (v := nI t) htr rfl rfl f_4_62 rfl (by show _ < 40; omega) rfl ?_
  refine x_aaldi (a := t) rfl rfl rfl (by decide) (by decide) (by omega) (by decide) rfl ?_
  refine x_getRi rfl rfl f_4_64 rfl (by show _ < 13; omega) rfl rfl ?_
  refine x_lload_n rfl rfl rfl ?_
  refine x_callVi (d2 := 1) (c_LL_has (len := m) hG (lk_6 (by omega)) (e) hm (by omega) (by decide) (Nat.le_refl 1)) rfl rfl v_4_91 rfl rfl (by show _ < 13; omega) rfl rfl (Nat.le_of_ble_eq_true rfl) (by omega) (by omega) ?_
  refine x_ifB_eq rfl rfl (fun hc2 => ?_) (fun hc2 => ?_)
  · refine x_iconstN (b := 0) rfl rfl ?_
    exact x_retZ rfl rfl rfl (by first | exact Or.inl rfl | exact Or.inr rfl) (by omega) (oB_f hc2) rfl
  · refine x_iconstN (b := 1) rfl rfl ?_
    refine x_goto rfl rfl ?_
    exact x_retZ rfl rfl rfl (by first | exact Or.inl rfl | exact Or.inr rfl) (by omega) (oB_t hc2) rfl
set_option maxHeartbeats 4000000 in
set_option maxRecDepth 20000 in
theorem c_isMemberO (hG : Gok G) {i kd : Nat} (hi : i < 40) (hkd : kd < 16) (e : Int64) (hk : M.1 (8, i) 3 = nI kd) (h10 : kd ≠ 10) : Ct G mX4_isMember d [.ref (ga G (1, 0)), .ref (ga G (8, i)), .long (e)] M (.inl (some (.int (nI 0)))) M 0 := by
  refine ct_of hG okX4_isMember (by decide +kernel) rfl (Nat.le_of_ble_eq_true rfl) ?_
  refine x_aload_n rfl rfl rfl ?_
  refine x_getIv (v := nI kd) hk rfl rfl f_4_84 rfl (by show _ < 40; omega) rfl ?_
  refine x_bipush (v := nI 10) rfl rfl (by decide +kernel) ?_
  refine x_icmpN_ne (by omega) (by omega) rfl rfl (fun hc1 => ?_) (fun hc1 => absurd hc1 (by omega))
  refine x_iconstN (b := 0) rfl rfl ?_
  exact x_retZ rfl rfl rfl (Or.inl rfl) (by omega) rfl rfl
/-- traits that are alike in all -/
def alk (M : Mm) (a b la lb : Nat) : Prop := M.2 (5, a) 1 = M.2 (5, b) 1 ∧ M.1 (5, a) 2 = M.1 (5, b) 2 ∧ la = lb ∧ ∀ k, k < la → M.2 (7, a) k = M.2 (7, b) k
set_option maxHeartbeats 4000000 in
set_option maxRecDepth 20000 in
theorem c_isAlike (hG : Gok G) (hd : 1 ≤ d) {a b la lb : Nat} (ha : a < 13) (hb : b < 13) (hla : M.1 (6, a) 1 = nI la) (hla2 : la ≤ 3) (hlb : M.1 (6, b) 1 = nI lb) (hlb2 : lb ≤ 3) : Ct G mX6_isAlike d [.ref (ga G (5, a)), .ref (ga G (5, b))] M (.inl (some (.int (bI (alk M a b la lb))))) M 0 := by
  refine ct_of hG okX6_isAlike (by decide +kernel) rfl (Nat.le_of_ble_eq_true rfl) ?_
  refine x_aload_n rfl rfl rfl ?_
  refine x_getL rfl rfl f_6_20 rfl (by show _ < 13; omega) rfl ?_
  refine x_aload_n rfl rfl rfl ?_
  refine x_getL rfl rfl f_6_20 rfl (by show _ < 13; omega) rfl ?_
  refine x_lc_ne rfl rfl rfl rfl (fun hc1 => ?_) (fun hc1 => ?_)
  · refine x_iconstN (b := 0) rfl rfl ?_
    exact x_retZ rfl rfl rfl (by first | exact Or.inl rfl | exact Or.inr rfl) (by omega) (oB_f (fun z => hc1 z.1)) rfl
  · refine x_aload_n rfl rfl rfl ?_
    refine x_getZ rfl rfl f_6_24 rfl (by show _ < 13; omega) rfl ?_
    refine x_aload_n rfl rfl rfl ?_
    refine x_getZ rfl rfl f_6_24 rfl (by show _ < 13; omega) rfl ?_
    refine x_icmp_ne rfl rfl (fun hc2 => ?_) (fun hc2 => ?_)
    · refine x_iconstN (b := 0) rfl rfl ?_
      exact x_retZ rfl rfl rfl (by first | exact Or.inl rfl | exact Or.inr rfl) (by omega) (oB_f (fun z => hc2 z.2.1)) rfl
    · refine x_aload_n rfl rfl rfl ?_
      refine x_getRi rfl rfl f_6_14 rfl (by show _ < 13; omega) rfl rfl ?_
      refine x_aload_n rfl rfl rfl ?_
      refine x_getRi rfl rfl f_6_14 rfl (by show _ < 13; omega) rfl rfl ?_
      refine x_callVi (d2 := 0) (c_LL_isLike (len := la) (len2 := lb) hG (lk_6 (by omega)) (lk_6 (by omega)) hla (by omega) hlb (by omega)) rfl rfl v_6_31 rfl rfl (by show _ < 13; omega) rfl rfl (Nat.le_of_ble_eq_true rfl) (by omega) (by omega) ?_
      refine x_ifB_eq rfl rfl (fun hc3 => ?_) (fun hc3 => ?_)
      · refine x_iconstN (b := 0) rfl rfl ?_
        exact x_retZ rfl rfl rfl (by first | exact Or.inl rfl | exact Or.inr rfl) (by omega) (oB_f (fun z => hc3 z.2.2)) rfl
      · refine x_iconstN (b := 1) rfl rfl ?_
        refine x_goto rfl rfl ?_
        exact x_retZ rfl rfl rfl (by first | exact Or.inl rfl | exact Or.inr rfl) (by omega) (oB_t ⟨hc1, hc2, hc3⟩) rfl
set_option maxHeartbeats 4000000 in
set_option maxRecDepth 20000 in
theorem c_addMember0 (hG : Gok G) {t : Nat} (ht : t < 13) : Ct G mX8_addMember d [.ref (ga G (5, t)), .long (0)] M (.inl none) M 0 := by
  refine ct_of hG okX8_addMember (by decide +kernel) rfl (Nat.le_of_ble_eq_true rfl) ?_
  refine x_lload_n rfl rfl rfl ?_
  refine x_lconst (v := 0) rfl rfl (by decide +kernel) ?_
  refine x_lc_eq rfl rfl rfl rfl (fun hc1 => ?_) (fun hc1 => absurd rfl hc1)
  exact x_retV rfl rfl rfl (by omega) rfl rfl
set_option maxHeartbeats 4000000 in
set_option maxRecDepth 20000 in
theorem c_addMember1 (hG : Gok G) (hd : 1 ≤ d) {t m : Nat} (ht : t < 13) (e : Int64) (he : e ≠ 0) (hm : M.1 (6, t) 1 = nI m) (hm2 : m < 3) : Ct G mX8_addMember d [.ref (ga G (5, t)), .long (e)] M (.inl none) (ui (ul M (7, t) m e) (6, t) 1 (nI (m + 1))) 0 := by
  refine ct_of hG okX8_addMember (by decide +kernel) rfl (Nat.le_of_ble_eq_true rfl) ?_
  refine x_lload_n rfl rfl rfl ?_
  refine x_lconst (v := 0) rfl rfl (by decide +kernel) ?_
  refine x_lc_eq rfl rfl rfl rfl (fun hc1 => absurd hc1 he) (fun hc1 => ?_)
  refine x_aload_n rfl rfl rfl ?_
  refine x_getRi rfl rfl f_8_239 rfl (by show _ < 13; omega) rfl rfl ?_
  refine x_lload_n rfl rfl rfl ?_
  refine x_callVv (d2 := 0) (c_LL_add (len := m) hG (lk_6 (by omega)) (e) hm (by omega)) rfl rfl v_8_97 rfl rfl (by show _ < 13; omega) rfl rfl (Nat.le_of_ble_eq_true rfl) (by omega) (by omega) ?_
  exact x_retV rfl rfl rfl (by omega) rfl rfl
def cbm (a b c : Int64) : Prop := (isTx a ∧ isTx b ∧ isTx c) ∧ ((a = 0 ∧ b = 0 ∧ c = 0) ∨ (a ≠ 0 ∧ b = 0 ∧ c = 0) ∨ (a ≠ 0 ∧ b ≠ 0 ∧ a ≠ b ∧ a ≠ c ∧ b ≠ c))
set_option maxHeartbeats 4000000 in
set_option maxRecDepth 20000 in
theorem c_canBeMembers (hG : Gok G) (hd : 1 ≤ d) (a b c : Int64) : Ct G mX8_canBeMembers d [.long (a), .long (b), .long (c)] M (.inl (some (.int (bI (cbm a b c))))) M 0 := by
  refine ct_of hG okX8_canBeMembers (by decide +kernel) rfl (Nat.le_of_ble_eq_true rfl) ?_
  refine x_lload_n rfl rfl rfl ?_
  refine x_callSi (d2 := 0) (c_isText hG (a)) rfl rfl s_8_101 rfl rfl (Nat.le_of_ble_eq_true rfl) (by omega) (by omega) ?_
  refine x_ifB_eq rfl rfl (fun hc1 => ?_) (fun hc1 => ?_)
  · refine x_iconstN (b := 0) rfl rfl ?_
    exact x_retZ rfl rfl rfl (by first | exact Or.inl rfl | exact Or.inr rfl) (by omega) (oB_f (by unfold cbm; simp_all)) rfl
  · refine x_lload_n rfl rfl rfl ?_
    refine x_callSi (d2 := 0) (c_isText hG (b)) rfl rfl s_8_101 rfl rfl (Nat.le_of_ble_eq_true rfl) (by omega) (by omega) ?_
    refine x_ifB_eq rfl rfl (fun hc2 => ?_) (fun hc2 => ?_)
    · refine x_iconstN (b := 0) rfl rfl ?_
      exact x_retZ rfl rfl rfl (by first | exact Or.inl rfl | exact Or.inr rfl) (by omega) (oB_f (by unfold cbm; simp_all)) rfl
    · refine x_lload rfl rfl rfl ?_
      refine x_callSi (d2 := 0) (c_isText hG (c)) rfl rfl s_8_101 rfl rfl (Nat.le_of_ble_eq_true rfl) (by omega) (by omega) ?_
      refine x_ifB_ne rfl rfl (fun hc3 => ?_) (fun hc3 => ?_)
      · refine x_lload_n rfl rfl rfl ?_
        refine x_lconst (v := 0) rfl rfl (by decide +kernel) ?_
        refine x_lc_ne rfl rfl rfl rfl (fun hc4 => ?_) (fun hc4 => ?_)
        · refine x_lload_n rfl rfl rfl ?_
          refine x_lconst (v := 0) rfl rfl (by decide +kernel) ?_
          refine x_lc_ne rfl rfl rfl rfl (fun hc5 => ?_) (fun hc5 => ?_)
          · refine x_lload_n rfl rfl rfl ?_
            refine x_lload_n rfl rfl rfl ?_
            refine x_lc_eq rfl rfl rfl rfl (fun hc6 => ?_) (fun hc6 => ?_)
            · refine x_iconstN (b := 0) rfl rfl ?_
              exact x_retZ rfl rfl rfl (by first | exact Or.inl rfl | exact Or.inr rfl) (by omega) (oB_f (by unfold cbm; simp_all)) rfl
            · refine x_lload_n rfl rfl rfl ?_
              refine x_lload rfl rfl rfl ?_
              refine x_lc_eq rfl rfl rfl rfl (fun hc7 => ?_) (fun hc7 => ?_)
              · refine x_iconstN (b := 0) rfl rfl ?_
                exact x_retZ rfl rfl rfl (by first | exact Or.inl rfl | exact Or.inr rfl) (by omega) (oB_f (by unfold cbm; simp_all)) rfl
              · refine x_lload_n rfl rfl rfl ?_
                refine x_lload rfl rfl rfl ?_
                refine x_lc_eq rfl rfl rfl rfl (fun hc8 => ?_) (fun hc8 => ?_)
                · refine x_iconstN (b := 0) rfl rfl ?_
                  exact x_retZ rfl rfl rfl (by first | exact Or.inl rfl | exact Or.inr rfl) (by omega) (oB_f (by unfold cbm; simp_all)) rfl
                · refine x_iconstN (b := 1) rfl rfl ?_
                  refine x_goto rfl rfl ?_
                  exact x_retZ rfl rfl rfl (by first | exact Or.inl rfl | exact Or.inr rfl) (by omega) (oB_t (by unfold cbm; simp_all)) rfl
          · refine x_lload rfl rfl rfl ?_
            refine x_lconst (v := 0) rfl rfl (by decide +kernel) ?_
            refine x_lc_ne rfl rfl rfl rfl (fun hc9 => ?_) (fun hc9 => ?_)
            · refine x_iconstN (b := 0) rfl rfl ?_
              exact x_retZ rfl rfl rfl (by first | exact Or.inl rfl | exact Or.inr rfl) (by omega) (oB_f (by unfold cbm; simp_all)) rfl
            · refine x_iconstN (b := 1) rfl rfl ?_
              refine x_goto rfl rfl ?_
              exact x_retZ rfl rfl rfl (by first | exact Or.inl rfl | exact Or.inr rfl) (by omega) (oB_t (by unfold cbm; simp_all)) rfl
        · refine x_lload_n rfl rfl rfl ?_
          refine x_lconst (v := 0) rfl rfl (by decide +kernel) ?_
          refine x_lc_ne rfl rfl rfl rfl (fun hc10 => ?_) (fun hc10 => ?_)
          · refine x_iconstN (b := 0) rfl rfl ?_
            exact x_retZ rfl rfl rfl (by first | exact Or.inl rfl | exact Or.inr rfl) (by omega) (oB_f (by unfold cbm; simp_all)) rfl
          · refine x_lload rfl rfl rfl ?_
            refine x_lconst (v := 0) rfl rfl (by decide +kernel) ?_
            refine x_lc_ne rfl rfl rfl rfl (fun hc11 => ?_) (fun hc11 => ?_)
            · refine x_iconstN (b := 0) rfl rfl ?_
              exact x_retZ rfl rfl rfl (by first | exact Or.inl rfl | exact Or.inr rfl) (by omega) (oB_f (by unfold cbm; simp_all)) rfl
            · refine x_iconstN (b := 1) rfl rfl ?_
              refine x_goto rfl rfl ?_
              exact x_retZ rfl rfl rfl (by first | exact Or.inl rfl | exact Or.inr rfl) (by omega) (oB_t (by unfold cbm; simp_all)) rfl
      · refine x_iconstN (b := 0) rfl rfl ?_
        exact x_retZ rfl rfl rfl (by first | exact Or.inl rfl | exact Or.inr rfl) (by omega) (oB_f (by unfold cbm; simp_all)) rfl
/-- how many of n bytes from i on aren't 0 -/
def cz (u : Nat) : Nat → Nat → Nat
  | _, 0 => 0
  | i, n + 1 => (if u / 2 ^ (8 * i) % 256 = 0 then 0 else 1) + cz u (i + 1) n
theorem cz_s (u i n : Nat) : cz u i (n + 1) = (if u / 2 ^ (8 * i) % 256 = 0 then 0 else 1) + cz u (i + 1) n := rfl
theorem cz_le (u : Nat) : ∀ i n, cz u i n ≤ n
  | _, 0 => Nat.le_refl 0
  | i, n + 1 => by
    have := cz_le u (i + 1) n
    unfold cz
    split <;> omega
theorem sb_0 (t : Int64) {i : Nat} (h : i < 7) : ((t >>> ((nI (8 * i)).toInt64 &&& 63)) &&& 255) = 0 ↔ uN t / 2 ^ (8 * i) % 256 = 0 := by rw [uN_eq0, uN_sbyte t (by omega)]
set_option maxHeartbeats 4000000 in
theorem l_textSize (t : Int64) : ∀ (n i a : Nat), i + n = 7 → a ≤ i → Fr G mX8_textSize d 0 (Zm G (.inl (some (.int (nI (a + cz (uN t) i n))))) M 0) 0 4 [(0, .long (t)), (2, .int (nI a)), (3, .int (nI i))] [] M := by
  intro n
  induction n with
  | zero =>
    intro i a hi ha
    refine x_iload_n rfl rfl rfl ?_
    refine x_bipush (v := nI 7) rfl rfl (by decide +kernel) ?_
    refine x_icmpN_ge (by omega) (by omega) rfl rfl (fun hc1 => ?_) (fun hc1 => absurd hc1 (by omega))
    refine x_iload_n rfl rfl rfl ?_
    exact x_retI rfl rfl rfl (by omega) rfl rfl
  | succ n ih =>
    intro i a hi ha
    refine x_iload_n rfl rfl rfl ?_
    refine x_bipush (v := nI 7) rfl rfl (by decide +kernel) ?_
    refine x_icmpN_ge (by omega) (by omega) rfl rfl (fun hc1 => absurd hc1 (by omega)) (fun hc1 => ?_)
    refine x_iload_n rfl rfl rfl ?_
    refine x_lload_n rfl rfl rfl ?_
    refine x_bipush (v := nI 8) rfl rfl (by decide +kernel) ?_
    refine x_iload_n rfl rfl rfl ?_
    refine x_imulN (a := 8) (b := i) rfl rfl ?_
    refine x_lshr rfl rfl ?_
    refine x_ldc2 (v := 255) rfl rfl k_8_95 ?_
    refine x_land rfl rfl ?_
    refine x_lconst (v := 0) rfl rfl (by decide +kernel) ?_
    refine x_lc_eq rfl rfl rfl rfl (fun hc2 => ?_) (fun hc2 => ?_)
    · refine x_iconstN (b := 0) rfl rfl ?_
      refine x_iaddN (a := a) (b := 0) rfl rfl ?_
      refine x_istore_n rfl rfl rfl rfl ?_
      refine x_iincN (a := i) (b := 1) rfl rfl rfl rfl rfl ?_
      refine x_goto rfl rfl ?_
      (have hz := ih (i + 1) (a + 0) (by omega) (by omega); rw [show a + 0 + cz (uN t) (i + 1) n = a + cz (uN t) i (n + 1) by rw [cz_s, if_pos ((sb_0 t (by omega)).mp hc2)]; omega] at hz; exact hz)
    · refine x_iconstN (b := 1) rfl rfl ?_
      refine x_goto rfl rfl ?_
      refine x_iaddN (a := a) (b := 1) rfl rfl ?_
      refine x_istore_n rfl rfl rfl rfl ?_
      refine x_iincN (a := i) (b := 1) rfl rfl rfl rfl rfl ?_
      refine x_goto rfl rfl ?_
      (have hz := ih (i + 1) (a + 1) (by omega) (by omega); rw [show a + 1 + cz (uN t) (i + 1) n = a + cz (uN t) i (n + 1) by rw [cz_s, if_neg (fun z => hc2 ((sb_0 t (by omega)).mpr z))]; omega] at hz; exact hz)
set_option maxHeartbeats 4000000 in
set_option maxRecDepth 20000 in
theorem c_textSize (hG : Gok G) (t : Int64) : Ct G mX8_textSize d [.long (t)] M (.inl (some (.int (nI (cz (uN t) 0 7))))) M 0 := by
  refine ct_of hG okX8_textSize (by decide +kernel) rfl (Nat.le_of_ble_eq_true rfl) ?_
  refine x_iconstN (b := 0) rfl rfl ?_
  refine x_istore_n rfl rfl rfl rfl ?_
  refine x_iconstN (b := 0) rfl rfl ?_
  refine x_istore_n rfl rfl rfl rfl ?_
  (have hz := l_textSize (G := G) (d := d) (M := M) t 7 0 0 (by omega) (by omega); rw [Nat.zero_add] at hz; exact hz)
end C5
end
section
section C6
variable {G : Gd} {d : Nat} {M : Mm}
set_option maxHeartbeats 4000000 in
set_option maxRecDepth 20000 in
theorem c_things (hG : Gok G) {n : Nat} (hn : M.1 (1, 0) 5 = nI n) (hn2 : n ≤ 40) : Ct G mX8_things d [.ref (ga G (0, 0))] M (.inl (some (.int (nI n)))) M 0 := by
  refine ct_of hG okX8_things (by decide +kernel) rfl (Nat.le_of_ble_eq_true rfl) ?_
  refine x_aload_n rfl rfl rfl ?_
  refine x_getR0 rfl rfl f_8_20 rfl (by decide) rfl rfl ?_
  refine x_getIv (v := nI n) hn rfl rfl f_8_207 rfl (by decide) rfl ?_
  exact x_retI rfl rfl rfl (by omega) rfl rfl
set_option maxHeartbeats 4000000 in
set_option maxRecDepth 20000 in
theorem c_size (hG : Gok G) {rn : Nat} (hr : M.1 (15, 0) 1 = nI rn) (hr2 : rn ≤ 600) : Ct G mX8_size d [.ref (ga G (0, 0))] M (.inl (some (.int (nI rn)))) M 0 := by
  refine ct_of hG okX8_size (by decide +kernel) rfl (Nat.le_of_ble_eq_true rfl) ?_
  refine x_aload_n rfl rfl rfl ?_
  refine x_getR0 rfl rfl f_8_24 rfl (by decide) rfl rfl ?_
  refine x_getIv (v := nI rn) hr rfl rfl f_8_186 rfl (by decide) rfl ?_
  exact x_retI rfl rfl rfl (by omega) rfl rfl
set_option maxHeartbeats 4000000 in
set_option maxRecDepth 20000 in
theorem c_fault (hG : Gok G) : Ct G mX8_fault d [.ref (ga G (0, 0))] M (.inl (some (.int (M.1 (27, 0) 10)))) M 0 := by
  refine ct_of hG okX8_fault (by decide +kernel) rfl (Nat.le_of_ble_eq_true rfl) ?_
  refine x_aload_n rfl rfl rfl ?_
  refine x_getR0 rfl rfl f_8_46 rfl (by decide) rfl rfl ?_
  refine x_getI rfl rfl f_8_195 rfl (by decide) rfl ?_
  exact x_retI rfl rfl rfl (by omega) rfl rfl
set_option maxHeartbeats 4000000 in
set_option maxRecDepth 20000 in
theorem c_byteAt (hG : Gok G) {rn : Nat} (hr : M.1 (15, 0) 1 = nI rn) (hr2 : rn ≤ 600) {j : Nat} (hj : j < rn) : Ct G mX8_byteAt d [.ref (ga G (0, 0)), .int (nI j)] M (.inl (some (.int (M.1 (16, 0) j)))) M 0 := by
  refine ct_of hG okX8_byteAt (by decide +kernel) rfl (Nat.le_of_ble_eq_true rfl) ?_
  refine x_iload_n rfl rfl rfl ?_
  refine x_ifN_lt (by omega) rfl rfl (fun hc1 => hc1.elim) (fun hc1 => ?_)
  refine x_iload_n rfl rfl rfl ?_
  refine x_aload_n rfl rfl rfl ?_
  refine x_getR0 rfl rfl f_8_24 rfl (by decide) rfl rfl ?_
  refine x_getIv (v := nI rn) hr rfl rfl f_8_186 rfl (by decide) rfl ?_
  refine x_icmpN_ge (by omega) (by omega) rfl rfl (fun hc2 => absurd hc2 (by omega)) (fun hc2 => ?_)
  refine x_aload_n rfl rfl rfl ?_
  refine x_getR0 rfl rfl f_8_24 rfl (by decide) rfl rfl ?_
  refine x_getR0 rfl rfl f_8_198 rfl (by decide) rfl rfl ?_
  refine x_iload_n rfl rfl rfl ?_
  refine x_iald (a := j) rfl rfl rfl (by decide) (by omega) (by decide) ?_
  refine x_goto rfl rfl ?_
  exact x_retI rfl rfl rfl (by omega) rfl rfl
set_option maxHeartbeats 4000000 in
set_option maxRecDepth 20000 in
theorem c_byteAtO (hG : Gok G) {rn : Nat} (hr : M.1 (15, 0) 1 = nI rn) (hr2 : rn ≤ 600) {j : Nat} (hj : rn ≤ j) (hj2 : j < 2 ^ 31) : Ct G mX8_byteAt d [.ref (ga G (0, 0)), .int (nI j)] M (.inl (some (.int ((-1))))) M 0 := by
  refine ct_of hG okX8_byteAt (by decide +kernel) rfl (Nat.le_of_ble_eq_true rfl) ?_
  refine x_iload_n rfl rfl rfl ?_
  refine x_ifN_lt (by omega) rfl rfl (fun hc1 => hc1.elim) (fun hc1 => ?_)
  refine x_iload_n rfl rfl rfl ?_
  refine x_aload_n rfl rfl rfl ?_
  refine x_getR0 rfl rfl f_8_24 rfl (by decide) rfl rfl ?_
  refine x_getIv (v := nI rn) hr rfl rfl f_8_186 rfl (by decide) rfl ?_
  refine x_icmpN_ge (by omega) (by omega) rfl rfl (fun hc2 => ?_) (fun hc2 => absurd hc2 (by omega))
  refine x_iconst (v := -1) rfl rfl (by decide +kernel) ?_
  exact x_retI rfl rfl rfl (by omega) rfl rfl
set_option maxHeartbeats 4000000 in
set_option maxRecDepth 20000 in
theorem c_byteAtN (hG : Gok G) {i : Int32} (hi : i < 0) : Ct G mX8_byteAt d [.ref (ga G (0, 0)), .int (i)] M (.inl (some (.int ((-1))))) M 0 := by
  refine ct_of hG okX8_byteAt (by decide +kernel) rfl (Nat.le_of_ble_eq_true rfl) ?_
  refine x_iload_n rfl rfl rfl ?_
  refine x_if_lt rfl rfl (fun hc1 => ?_) (fun hc1 => absurd hi hc1)
  refine x_iconst (v := -1) rfl rfl (by decide +kernel) ?_
  exact x_retI rfl rfl rfl (by omega) rfl rfl
set_option maxHeartbeats 4000000 in
set_option maxRecDepth 20000 in
theorem c_bits (hG : Gok G) {w : Nat} (hw : M.1 (1, 0) 3 = nI w) (hw2 : w ≤ 40) {k : Nat} (hk : k < w) : Ct G mX8_bits d [.ref (ga G (0, 0)), .int (nI k)] M (.inl (some (.long (M.2 (2, 0) k)))) M 0 := by
  refine ct_of hG okX8_bits (by decide +kernel) rfl (Nat.le_of_ble_eq_true rfl) ?_
  refine x_iload_n rfl rfl rfl ?_
  refine x_ifN_lt (by omega) rfl rfl (fun hc1 => hc1.elim) (fun hc1 => ?_)
  refine x_iload_n rfl rfl rfl ?_
  refine x_aload_n rfl rfl rfl ?_
  refine x_getR0 rfl rfl f_8_20 rfl (by decide) rfl rfl ?_
  refine x_getIv (v := nI w) hw rfl rfl f_8_57 rfl (by decide) rfl ?_
  refine x_icmpN_ge (by omega) (by omega) rfl rfl (fun hc2 => absurd hc2 (by omega)) (fun hc2 => ?_)
  refine x_aload_n rfl rfl rfl ?_
  refine x_getR0 rfl rfl f_8_20 rfl (by decide) rfl rfl ?_
  refine x_getR0 rfl rfl f_8_64 rfl (by decide) rfl rfl ?_
  refine x_iload_n rfl rfl rfl ?_
  refine x_lald (a := k) rfl rfl rfl (by decide) (by omega) (by decide) ?_
  refine x_goto rfl rfl ?_
  exact x_retL rfl rfl rfl (by omega) rfl rfl
set_option maxHeartbeats 4000000 in
set_option maxRecDepth 20000 in
theorem c_bitsO (hG : Gok G) {w : Nat} (hw : M.1 (1, 0) 3 = nI w) (hw2 : w ≤ 40) {k : Nat} (hk : w ≤ k) (hk2 : k < 2 ^ 31) : Ct G mX8_bits d [.ref (ga G (0, 0)), .int (nI k)] M (.inl (some (.long (0)))) M 0 := by
  refine ct_of hG okX8_bits (by decide +kernel) rfl (Nat.le_of_ble_eq_true rfl) ?_
  refine x_iload_n rfl rfl rfl ?_
  refine x_ifN_lt (by omega) rfl rfl (fun hc1 => hc1.elim) (fun hc1 => ?_)
  refine x_iload_n rfl rfl rfl ?_
  refine x_aload_n rfl rfl rfl ?_
  refine x_getR0 rfl rfl f_8_20 rfl (by decide) rfl rfl ?_
  refine x_getIv (v := nI w) hw rfl rfl f_8_57 rfl (by decide) rfl ?_
  refine x_icmpN_ge (by omega) (by omega) rfl rfl (fun hc2 => ?_) (fun hc2 => absurd hc2 (by omega))
  refine x_lconst (v := 0) rfl rfl (by decide +kernel) ?_
  exact x_retL rfl rfl rfl (by omega) rfl rfl
set_option maxHeartbeats 4000000 in
set_option maxRecDepth 20000 in
theorem c_bitsN (hG : Gok G) {i : Int32} (hi : i < 0) : Ct G mX8_bits d [.ref (ga G (0, 0)), .int (i)] M (.inl (some (.long (0)))) M 0 := by
  refine ct_of hG okX8_bits (by decide +kernel) rfl (Nat.le_of_ble_eq_true rfl) ?_
  refine x_iload_n rfl rfl rfl ?_
  refine x_if_lt rfl rfl (fun hc1 => ?_) (fun hc1 => absurd hi hc1)
  refine x_lconst (v := 0) rfl rfl (by decide +kernel) ?_
  exact x_retL rfl rfl rfl (by omega) rfl rfl
set_option maxHeartbeats 4000000 in
set_option maxRecDepth 20000 in
theorem c_kind (hG : Gok G) (hd : 1 ≤ d) {n : Nat} (hn : M.1 (1, 0) 5 = nI n) (hn2 : n ≤ 40) {i : Nat} (hi : i < n) {kd : Nat} (hkd : M.1 (8, i) 3 = nI kd) : Ct G mX8_kind d [.ref (ga G (0, 0)), .int (nI i)] M (.inl (some (.int (nI kd)))) M 0 := by
  refine ct_of hG okX8_kind (by decide +kernel) rfl (Nat.le_of_ble_eq_true rfl) ?_
  refine x_aload_n rfl rfl rfl ?_
  refine x_getR0 rfl rfl f_8_20 rfl (by decide) rfl rfl ?_
  refine x_iload_n rfl rfl rfl ?_
  refine x_i2lN (a := i) (by omega) rfl rfl ?_
  refine x_callVi (d2 := 0) (c_isThing hG (lN (i)) hn hn2) rfl rfl v_8_210 rfl rfl (by decide) rfl rfl (Nat.le_of_ble_eq_true rfl) (by omega) (by omega) ?_
  refine x_ifB_eq rfl rfl (fun hc1 => absurd (inTh hi hn2) hc1) (fun hc1 => ?_)
  refine x_aload_n rfl rfl rfl ?_
  refine x_getR0 rfl rfl f_8_20 rfl (by decide) rfl rfl ?_
  refine x_getR0 rfl rfl f_8_79 rfl (by decide) rfl rfl ?_
  refine x_iload_n rfl rfl rfl ?_
  refine x_aaldi (a := i) rfl rfl rfl (by decide) (by decide) (by omega) (by decide) rfl ?_
  refine x_getIv (v := nI kd) hkd rfl rfl f_8_213 rfl (by show _ < 40; omega) rfl ?_
  refine x_goto rfl rfl ?_
  exact x_retI rfl rfl rfl (by omega) rfl rfl
set_option maxHeartbeats 4000000 in
set_option maxRecDepth 20000 in
theorem c_kindO (hG : Gok G) (hd : 1 ≤ d) {n : Nat} (hn : M.1 (1, 0) 5 = nI n) (hn2 : n ≤ 40) {th : Int32} (ho : ∀ i, i < n → th ≠ nI i) : Ct G mX8_kind d [.ref (ga G (0, 0)), .int (th)] M (.inl (some (.int ((-1))))) M 0 := by
  refine ct_of hG okX8_kind (by decide +kernel) rfl (Nat.le_of_ble_eq_true rfl) ?_
  refine x_aload_n rfl rfl rfl ?_
  refine x_getR0 rfl rfl f_8_20 rfl (by decide) rfl rfl ?_
  refine x_iload_n rfl rfl rfl ?_
  refine x_i2l rfl rfl ?_
  refine x_callVi (d2 := 0) (c_isThing hG ((th).toInt64) hn hn2) rfl rfl v_8_210 rfl rfl (by decide) rfl rfl (Nat.le_of_ble_eq_true rfl) (by omega) (by omega) ?_
  refine x_ifB_eq rfl rfl (fun hc1 => ?_) (fun hc1 => absurd hc1 (outTh ho hn2))
  refine x_iconst (v := -1) rfl rfl (by decide +kernel) ?_
  exact x_retI rfl rfl rfl (by omega) rfl rfl
set_option maxHeartbeats 4000000 in
set_option maxRecDepth 20000 in
theorem c_count (hG : Gok G) (hd : 1 ≤ d) {n : Nat} (hn : M.1 (1, 0) 5 = nI n) (hn2 : n ≤ 40) {i : Nat} (hi : i < n) {il : Nat} (hil : M.1 (9, i) 1 = nI il) : Ct G mX8_count d [.ref (ga G (0, 0)), .int (nI i)] M (.inl (some (.int (nI il)))) M 0 := by
  refine ct_of hG okX8_count (by decide +kernel) rfl (Nat.le_of_ble_eq_true rfl) ?_
  refine x_aload_n rfl rfl rfl ?_
  refine x_getR0 rfl rfl f_8_20 rfl (by decide) rfl rfl ?_
  refine x_iload_n rfl rfl rfl ?_
  refine x_i2lN (a := i) (by omega) rfl rfl ?_
  refine x_callVi (d2 := 0) (c_isThing hG (lN (i)) hn hn2) rfl rfl v_8_210 rfl rfl (by decide) rfl rfl (Nat.le_of_ble_eq_true rfl) (by omega) (by omega) ?_
  refine x_ifB_eq rfl rfl (fun hc1 => absurd (inTh hi hn2) hc1) (fun hc1 => ?_)
  refine x_aload_n rfl rfl rfl ?_
  refine x_getR0 rfl rfl f_8_20 rfl (by decide) rfl rfl ?_
  refine x_getR0 rfl rfl f_8_79 rfl (by decide) rfl rfl ?_
  refine x_iload_n rfl rfl rfl ?_
  refine x_aaldi (a := i) rfl rfl rfl (by decide) (by decide) (by omega) (by decide) rfl ?_
  refine x_getRi rfl rfl f_8_92 rfl (by show _ < 40; omega) rfl rfl ?_
  refine x_getIv (v := nI il) hil rfl rfl f_8_143 rfl (by show _ < 40; omega) rfl ?_
  refine x_goto rfl rfl ?_
  exact x_retI rfl rfl rfl (by omega) rfl rfl
set_option maxHeartbeats 4000000 in
set_option maxRecDepth 20000 in
theorem c_countO (hG : Gok G) (hd : 1 ≤ d) {n : Nat} (hn : M.1 (1, 0) 5 = nI n) (hn2 : n ≤ 40) {th : Int32} (ho : ∀ i, i < n → th ≠ nI i) : Ct G mX8_count d [.ref (ga G (0, 0)), .int (th)] M (.inl (some (.int ((-1))))) M 0 := by
  refine ct_of hG okX8_count (by decide +kernel) rfl (Nat.le_of_ble_eq_true rfl) ?_
  refine x_aload_n rfl rfl rfl ?_
  refine x_getR0 rfl rfl f_8_20 rfl (by decide) rfl rfl ?_
  refine x_iload_n rfl rfl rfl ?_
  refine x_i2l rfl rfl ?_
  refine x_callVi (d2 := 0) (c_isThing hG ((th).toInt64) hn hn2) rfl rfl v_8_210 rfl rfl (by decide) rfl rfl (Nat.le_of_ble_eq_true rfl) (by omega) (by omega) ?_
  refine x_ifB_eq rfl rfl (fun hc1 => ?_) (fun hc1 => absurd hc1 (outTh ho hn2))
  refine x_iconst (v := -1) rfl rfl (by decide +kernel) ?_
  exact x_retI rfl rfl rfl (by omega) rfl rfl
set_option maxHeartbeats 4000000 in
set_option maxRecDepth 20000 in
theorem c_pairs (hG : Gok G) (hd : 1 ≤ d) {n : Nat} (hn : M.1 (1, 0) 5 = nI n) (hn2 : n ≤ 40) {i : Nat} (hi : i < n) {kl : Nat} (hkl : M.1 (11, i) 1 = nI kl) : Ct G mX8_pairs d [.ref (ga G (0, 0)), .int (nI i)] M (.inl (some (.int (nI kl)))) M 0 := by
  refine ct_of hG okX8_pairs (by decide +kernel) rfl (Nat.le_of_ble_eq_true rfl) ?_
  refine x_aload_n rfl rfl rfl ?_
  refine x_getR0 rfl rfl f_8_20 rfl (by decide) rfl rfl ?_
  refine x_iload_n rfl rfl rfl ?_
  refine x_i2lN (a := i) (by omega) rfl rfl ?_
  refine x_callVi (d2 := 0) (c_isThing hG (lN (i)) hn hn2) rfl rfl v_8_210 rfl rfl (by decide) rfl rfl (Nat.le_of_ble_eq_true rfl) (by omega) (by omega) ?_
  refine x_ifB_eq rfl rfl (fun hc1 => absurd (inTh hi hn2) hc1) (fun hc1 => ?_)
  refine x_aload_n rfl rfl rfl ?_
  refine x_getR0 rfl rfl f_8_20 rfl (by decide) rfl rfl ?_
  refine x_getR0 rfl rfl f_8_79 rfl (by decide) rfl rfl ?_
  refine x_iload_n rfl rfl rfl ?_
  refine x_aaldi (a := i) rfl rfl rfl (by decide) (by decide) (by omega) (by decide) rfl ?_
  refine x_getRi rfl rfl f_8_158 rfl (by show _ < 40; omega) rfl rfl ?_
  refine x_getIv (v := nI kl) hkl rfl rfl f_8_143 rfl (by show _ < 40; omega) rfl ?_
  refine x_goto rfl rfl ?_
  exact x_retI rfl rfl rfl (by omega) rfl rfl
set_option maxHeartbeats 4000000 in
set_option maxRecDepth 20000 in
theorem c_pairsO (hG : Gok G) (hd : 1 ≤ d) {n : Nat} (hn : M.1 (1, 0) 5 = nI n) (hn2 : n ≤ 40) {th : Int32} (ho : ∀ i, i < n → th ≠ nI i) : Ct G mX8_pairs d [.ref (ga G (0, 0)), .int (th)] M (.inl (some (.int (nI 0)))) M 0 := by
  refine ct_of hG okX8_pairs (by decide +kernel) rfl (Nat.le_of_ble_eq_true rfl) ?_
  refine x_aload_n rfl rfl rfl ?_
  refine x_getR0 rfl rfl f_8_20 rfl (by decide) rfl rfl ?_
  refine x_iload_n rfl rfl rfl ?_
  refine x_i2l rfl rfl ?_
  refine x_callVi (d2 := 0) (c_isThing hG ((th).toInt64) hn hn2) rfl rfl v_8_210 rfl rfl (by decide) rfl rfl (Nat.le_of_ble_eq_true rfl) (by omega) (by omega) ?_
  refine x_ifB_eq rfl rfl (fun hc1 => ?_) (fun hc1 => absurd hc1 (outTh ho hn2))
  refine x_iconstN (b := 0) rfl rfl ?_
  exact x_retI rfl rfl rfl (by omega) rfl rfl
set_option maxHeartbeats 4000000 in
set_option maxRecDepth 20000 in
theorem c_traitsOf (hG : Gok G) (hd : 1 ≤ d) {n : Nat} (hn : M.1 (1, 0) 5 = nI n) (hn2 : n ≤ 40) {i : Nat} (hi : i < n)  : Ct G mX8_traitsOf d [.ref (ga G (0, 0)), .int (nI i)] M (.inl (some (.int (M.1 (8, i) 4)))) M 0 := by
  refine ct_of hG okX8_traitsOf (by decide +kernel) rfl (Nat.le_of_ble_eq_true rfl) ?_
  refine x_aload_n rfl rfl rfl ?_
  refine x_getR0 rfl rfl f_8_20 rfl (by decide) rfl rfl ?_
  refine x_iload_n rfl rfl rfl ?_
  refine x_i2lN (a := i) (by omega) rfl rfl ?_
  refine x_callVi (d2 := 0) (c_isThing hG (lN (i)) hn hn2) rfl rfl v_8_210 rfl rfl (by decide) rfl rfl (Nat.le_of_ble_eq_true rfl) (by omega) (by omega) ?_
  refine x_ifB_eq rfl rfl (fun hc1 => absurd (inTh hi hn2) hc1) (fun hc1 => ?_)
  refine x_aload_n rfl rfl rfl ?_
  refine x_getR0 rfl rfl f_8_20 rfl (by decide) rfl rfl ?_
  refine x_getR0 rfl rfl f_8_79 rfl (by decide) rfl rfl ?_
  refine x_iload_n rfl rfl rfl ?_
  refine x_aaldi (a := i) rfl rfl rfl (by decide) (by decide) (by omega) (by decide) rfl ?_
  refine x_getI rfl rfl f_8_220 rfl (by show _ < 40; omega) rfl ?_
  refine x_goto rfl rfl ?_
  exact x_retI rfl rfl rfl (by omega) rfl rfl
set_option maxHeartbeats 4000000 in
set_option maxRecDepth 20000 in
theorem c_traitsOfO (hG : Gok G) (hd : 1 ≤ d) {n : Nat} (hn : M.1 (1, 0) 5 = nI n) (hn2 : n ≤ 40) {th : Int32} (ho : ∀ i, i < n → th ≠ nI i) : Ct G mX8_traitsOf d [.ref (ga G (0, 0)), .int (th)] M (.inl (some (.int ((-1))))) M 0 := by
  refine ct_of hG okX8_traitsOf (by decide +kernel) rfl (Nat.le_of_ble_eq_true rfl) ?_
  refine x_aload_n rfl rfl rfl ?_
  refine x_getR0 rfl rfl f_8_20 rfl (by decide) rfl rfl ?_
  refine x_iload_n rfl rfl rfl ?_
  refine x_i2l rfl rfl ?_
  refine x_callVi (d2 := 0) (c_isThing hG ((th).toInt64) hn hn2) rfl rfl v_8_210 rfl rfl (by decide) rfl rfl (Nat.le_of_ble_eq_true rfl) (by omega) (by omega) ?_
  refine x_ifB_eq rfl rfl (fun hc1 => ?_) (fun hc1 => absurd hc1 (outTh ho hn2))
  refine x_iconst (v := -1) rfl rfl (by decide +kernel) ?_
  exact x_retI rfl rfl rfl (by omega) rfl rfl
set_option maxHeartbeats 4000000 in
set_option maxRecDepth 20000 in
theorem c_itemT (hG : Gok G) (hd : 1 ≤ d) {n : Nat} (hn : M.1 (1, 0) 5 = nI n) (hn2 : n ≤ 40) {th : Int32} (ho : ∀ i, i < n → th ≠ nI i) (j : Int32) : Ct G mX8_item d [.ref (ga G (0, 0)), .int (th), .int (j)] M (.inl (some (.long ((-1))))) M 0 := by
  refine ct_of hG okX8_item (by decide +kernel) rfl (Nat.le_of_ble_eq_true rfl) ?_
  refine x_aload_n rfl rfl rfl ?_
  refine x_getR0 rfl rfl f_8_20 rfl (by decide) rfl rfl ?_
  refine x_iload_n rfl rfl rfl ?_
  refine x_i2l rfl rfl ?_
  refine x_callVi (d2 := 0) (c_isThing hG ((th).toInt64) hn hn2) rfl rfl v_8_210 rfl rfl (by decide) rfl rfl (Nat.le_of_ble_eq_true rfl) (by omega) (by omega) ?_
  refine x_ifB_ne rfl rfl (fun hc1 => absurd hc1 (outTh ho hn2)) (fun hc1 => ?_)
  refine x_ldc2 (v := -1) rfl rfl k_8_215 ?_
  exact x_retL rfl rfl rfl (by omega) rfl rfl
set_option maxHeartbeats 4000000 in
set_option maxRecDepth 20000 in
theorem c_itemD (hG : Gok G) (hd : 1 ≤ d) {n : Nat} (hn : M.1 (1, 0) 5 = nI n) (hn2 : n ≤ 40) {i : Nat} (hi : i < n) (hkd : M.1 (8, i) 3 = nI 8) : Ct G mX8_item d [.ref (ga G (0, 0)), .int (nI i), .int (nI 0)] M (.inl (some (.long (M.2 (8, i) 5)))) M 0 := by
  refine ct_of hG okX8_item (by decide +kernel) rfl (Nat.le_of_ble_eq_true rfl) ?_
  refine x_aload_n rfl rfl rfl ?_
  refine x_getR0 rfl rfl f_8_20 rfl (by decide) rfl rfl ?_
  refine x_iload_n rfl rfl rfl ?_
  refine x_i2lN (a := i) (by omega) rfl rfl ?_
  refine x_callVi (d2 := 0) (c_isThing hG (lN (i)) hn hn2) rfl rfl v_8_210 rfl rfl (by decide) rfl rfl (Nat.le_of_ble_eq_true rfl) (by omega) (by omega) ?_
  refine x_ifB_ne rfl rfl (fun hc1 => ?_) (fun hc1 => absurd (inTh hi hn2) hc1)
  refine x_aload_n rfl rfl rfl ?_
  refine x_getR0 rfl rfl f_8_20 rfl (by decide) rfl rfl ?_
  refine x_getR0 rfl rfl f_8_79 rfl (by decide) rfl rfl ?_
  refine x_iload_n rfl rfl rfl ?_
  refine x_aaldi (a := i) rfl rfl rfl (by decide) (by decide) (by omega) (by decide) rfl ?_
  refine x_astore_n rfl rfl rfl rfl ?_
  refine x_aload_n rfl rfl rfl ?_
  refine x_getIv (v := nI 8) hkd rfl rfl f_8_213 rfl (by show _ < 40; omega) rfl ?_
  refine x_bipush (v := nI 8) rfl rfl (by decide +kernel) ?_
  refine x_icmpN_ne (by omega) (by omega) rfl rfl (fun hc2 => absurd rfl hc2) (fun hc2 => ?_)
  refine x_iload_n rfl rfl rfl ?_
  refine x_if_ne rfl rfl (fun hc3 => absurd hc3 (by decide +kernel)) (fun _ => ?_)
  refine x_aload_n rfl rfl rfl ?_
  refine x_getL rfl rfl f_8_83 rfl (by show _ < 40; omega) rfl ?_
  refine x_goto rfl rfl ?_
  exact x_retL rfl rfl rfl (by omega) rfl rfl
set_option maxHeartbeats 4000000 in
set_option maxRecDepth 20000 in
theorem c_itemI (hG : Gok G) (hd : 1 ≤ d) {n : Nat} (hn : M.1 (1, 0) 5 = nI n) (hn2 : n ≤ 40) {i : Nat} (hi : i < n) {il : Nat} (hil : M.1 (9, i) 1 = nI il) (hil2 : il ≤ 8) {kd : Nat} (hkd : M.1 (8, i) 3 = nI kd) (hkd2 : kd < 16) (hne : kd ≠ 8) {j : Nat} (hj : j < il) : Ct G mX8_item d [.ref (ga G (0, 0)), .int (nI i), .int (nI j)] M (.inl (some (.long (M.2 (10, i) j)))) M 0 := by
  refine ct_of hG okX8_item (by decide +kernel) rfl (Nat.le_of_ble_eq_true rfl) ?_
  refine x_aload_n rfl rfl rfl ?_
  refine x_getR0 rfl rfl f_8_20 rfl (by decide) rfl rfl ?_
  refine x_iload_n rfl rfl rfl ?_
  refine x_i2lN (a := i) (by omega) rfl rfl ?_
  refine x_callVi (d2 := 0) (c_isThing hG (lN (i)) hn hn2) rfl rfl v_8_210 rfl rfl (by decide) rfl rfl (Nat.le_of_ble_eq_true rfl) (by omega) (by omega) ?_
  refine x_ifB_ne rfl rfl (fun hc1 => ?_) (fun hc1 => absurd (inTh hi hn2) hc1)
  refine x_aload_n rfl rfl rfl ?_
  refine x_getR0 rfl rfl f_8_20 rfl (by decide) rfl rfl ?_
  refine x_getR0 rfl rfl f_8_79 rfl (by decide) rfl rfl ?_
  refine x_iload_n rfl rfl rfl ?_
  refine x_aaldi (a := i) rfl rfl rfl (by decide) (by decide) (by omega) (by decide) rfl ?_
  refine x_astore_n rfl rfl rfl rfl ?_
  refine x_aload_n rfl rfl rfl ?_
  refine x_getIv (v := nI kd) hkd rfl rfl f_8_213 rfl (by show _ < 40; omega) rfl ?_
  refine x_bipush (v := nI 8) rfl rfl (by decide +kernel) ?_
  refine x_icmpN_ne (by omega) (by omega) rfl rfl (fun hc2 => ?_) (fun hc2 => absurd hc2 hne)
  refine x_aload_n rfl rfl rfl ?_
  refine x_getRi rfl rfl f_8_92 rfl (by show _ < 40; omega) rfl rfl ?_
  refine x_iload_n rfl rfl rfl ?_
  refine x_callVl (d2 := 0) (c_LL_at (len := il) hG (lk_9 (by omega)) (j) hil (by omega) (by omega)) rfl rfl v_8_217 rfl rfl (by show _ < 40; omega) rfl rfl (Nat.le_of_ble_eq_true rfl) (by omega) (by omega) ?_
  exact x_retL rfl rfl rfl (by omega) rfl rfl
set_option maxHeartbeats 4000000 in
set_option maxRecDepth 20000 in
theorem c_itemO (hG : Gok G) (hd : 1 ≤ d) {n : Nat} (hn : M.1 (1, 0) 5 = nI n) (hn2 : n ≤ 40) {i : Nat} (hi : i < n) {il : Nat} (hil : M.1 (9, i) 1 = nI il) (hil2 : il ≤ 8) {kd : Nat} (hkd : M.1 (8, i) 3 = nI kd) (hkd2 : kd < 16) (hne : kd ≠ 8) {j : Nat} (hj : il ≤ j) (hj2 : j < 2 ^ 31) : Ct G mX8_item d [.ref (ga G (0, 0)), .int (nI i), .int (nI j)] M (.inl (some (.long ((-1))))) M 0 := by
  refine ct_of hG okX8_item (by decide +kernel) rfl (Nat.le_of_ble_eq_true rfl) ?_
  refine x_aload_n rfl rfl rfl ?_
  refine x_getR0 rfl rfl f_8_20 rfl (by decide) rfl rfl ?_
  refine x_iload_n rfl rfl rfl ?_
  refine x_i2lN (a := i) (by omega) rfl rfl ?_
  refine x_callVi (d2 := 0) (c_isThing hG (lN (i)) hn hn2) rfl rfl v_8_210 rfl rfl (by decide) rfl rfl (Nat.le_of_ble_eq_true rfl) (by omega) (by omega) ?_
  refine x_ifB_ne rfl rfl (fun hc1 => ?_) (fun hc1 => absurd (inTh hi hn2) hc1)
  refine x_aload_n rfl rfl rfl ?_
  refine x_getR0 rfl rfl f_8_20 rfl (by decide) rfl rfl ?_
  refine x_getR0 rfl rfl f_8_79 rfl (by decide) rfl rfl ?_
  refine x_iload_n rfl rfl rfl ?_
  refine x_aaldi (a := i) rfl rfl rfl (by decide) (by decide) (by omega) (by decide) rfl ?_
  refine x_astore_n rfl rfl rfl rfl ?_
  refine x_aload_n rfl rfl rfl ?_
  refine x_getIv (v := nI kd) hkd rfl rfl f_8_213 rfl (by show _ < 40; omega) rfl ?_
  refine x_bipush (v := nI 8) rfl rfl (by decide +kernel) ?_
  refine x_icmpN_ne (by omega) (by omega) rfl rfl (fun hc2 => ?_) (fun hc2 => absurd hc2 hne)
  refine x_aload_n rfl rfl rfl ?_
  refine x_getRi rfl rfl f_8_92 rfl (by show _ < 40; omega) rfl rfl ?_
  refine x_iload_n rfl rfl rfl ?_
  refine x_callVl (d2 := 0) (c_LL_atO (len := il) hG (lk_9 (by omega)) (j) hil (by omega) (by omega) (by omega)) rfl rfl v_8_217 rfl rfl (by show _ < 40; omega) rfl rfl (Nat.le_of_ble_eq_true rfl) (by omega) (by omega) ?_
  exact x_retL rfl rfl rfl (by omega) rfl rfl
set_option maxHeartbeats 4000000 in
set_option maxRecDepth 20000 in
theorem c_itemZI (hG : Gok G) (hd : 1 ≤ d) {n : Nat} (hn : M.1 (1, 0) 5 = nI n) (hn2 : n ≤ 40) {i : Nat} (hi : i < n) {il : Nat} (hil : M.1 (9, i) 1 = nI il) (hil2 : il ≤ 8) (hkd : M.1 (8, i) 3 = nI 8) {j : Nat} (hj : j < il) (hj0 : 0 < j) : Ct G mX8_item d [.ref (ga G (0, 0)), .int (nI i), .int (nI j)] M (.inl (some (.long (M.2 (10, i) j)))) M 0 := by
  refine ct_of hG okX8_item (by decide +kernel) rfl (Nat.le_of_ble_eq_true rfl) ?_
  refine x_aload_n rfl rfl rfl ?_
  refine x_getR0 rfl rfl f_8_20 rfl (by decide) rfl rfl ?_
  refine x_iload_n rfl rfl rfl ?_
  refine x_i2lN (a := i) (by omega) rfl rfl ?_
  refine x_callVi (d2 := 0) (c_isThing hG (lN (i)) hn hn2) rfl rfl v_8_210 rfl rfl (by decide) rfl rfl (Nat.le_of_ble_eq_true rfl) (by omega) (by omega) ?_
  refine x_ifB_ne rfl rfl (fun hc1 => ?_) (fun hc1 => absurd (inTh hi hn2) hc1)
  refine x_aload_n rfl rfl rfl ?_
  refine x_getR0 rfl rfl f_8_20 rfl (by decide) rfl rfl ?_
  refine x_getR0 rfl rfl f_8_79 rfl (by decide) rfl rfl ?_
  refine x_iload_n rfl rfl rfl ?_
  refine x_aaldi (a := i) rfl rfl rfl (by decide) (by decide) (by omega) (by decide) rfl ?_
  refine x_astore_n rfl rfl rfl rfl ?_
  refine x_aload_n rfl rfl rfl ?_
  refine x_getIv (v := nI 8) hkd rfl rfl f_8_213 rfl (by show _ < 40; omega) rfl ?_
  refine x_bipush (v := nI 8) rfl rfl (by decide +kernel) ?_
  refine x_icmpN_ne (by omega) (by omega) rfl rfl (fun hc2 => absurd rfl hc2) (fun hc2 => ?_)
  refine x_iload_n rfl rfl rfl ?_
  refine x_ifN_ne (by omega) rfl rfl (fun hc3 => ?_) (fun hc3 => absurd hc3 (by omega))
  refine x_aload_n rfl rfl rfl ?_
  refine x_getRi rfl rfl f_8_92 rfl (by show _ < 40; omega) rfl rfl ?_
  refine x_iload_n rfl rfl rfl ?_
  refine x_callVl (d2 := 0) (c_LL_at (len := il) hG (lk_9 (by omega)) (j) hil (by omega) (by omega)) rfl rfl v_8_217 rfl rfl (by show _ < 40; omega) rfl rfl (Nat.le_of_ble_eq_true rfl) (by omega) (by omega) ?_
  exact x_retL rfl rfl rfl (by omega) rfl rfl
set_option maxHeartbeats 4000000 in
set_option maxRecDepth 20000 in
theorem c_itemZO (hG : Gok G) (hd : 1 ≤ d) {n : Nat} (hn : M.1 (1, 0) 5 = nI n) (hn2 : n ≤ 40) {i : Nat} (hi : i < n) {il : Nat} (hil : M.1 (9, i) 1 = nI il) (hil2 : il ≤ 8) (hkd : M.1 (8, i) 3 = nI 8) {j : Nat} (hj : il ≤ j) (hj2 : j < 2 ^ 31) (hj0 : 0 < j) : Ct G mX8_item d [.ref (ga G (0, 0)), .int (nI i), .int (nI j)] M (.inl (some (.long ((-1))))) M 0 := by
  refine ct_of hG okX8_item (by decide +kernel) rfl (Nat.le_of_ble_eq_true rfl) ?_
  refine x_aload_n rfl rfl rfl ?_
  refine x_getR0 rfl rfl f_8_20 rfl (by decide) rfl rfl ?_
  refine x_iload_n rfl rfl rfl ?_
  refine x_i2lN (a := i) (by omega) rfl rfl ?_
  refine x_callVi (d2 := 0) (c_isThing hG (lN (i)) hn hn2) rfl rfl v_8_210 rfl rfl (by decide) rfl rfl (Nat.le_of_ble_eq_true rfl) (by omega) (by omega) ?_
  refine x_ifB_ne rfl rfl (fun hc1 => ?_) (fun hc1 => absurd (inTh hi hn2) hc1)
  refine x_aload_n rfl rfl rfl ?_
  refine x_getR0 rfl rfl f_8_20 rfl (by decide) rfl rfl ?_
  refine x_getR0 rfl rfl f_8_79 rfl (by decide) rfl rfl ?_
  refine x_iload_n rfl rfl rfl ?_
  refine x_aaldi (a := i) rfl rfl rfl (by decide) (by decide) (by omega) (by decide) rfl ?_
  refine x_astore_n rfl rfl rfl rfl ?_
  refine x_aload_n rfl rfl rfl ?_
  refine x_getIv (v := nI 8) hkd rfl rfl f_8_213 rfl (by show _ < 40; omega) rfl ?_
  refine x_bipush (v := nI 8) rfl rfl (by decide +kernel) ?_
  refine x_icmpN_ne (by omega) (by omega) rfl rfl (fun hc2 => absurd rfl hc2) (fun hc2 => ?_)
  refine x_iload_n rfl rfl rfl ?_
  refine x_ifN_ne (by omega) rfl rfl (fun hc3 => ?_) (fun hc3 => absurd hc3 (by omega))
  refine x_aload_n rfl rfl rfl ?_
  refine x_getRi rfl rfl f_8_92 rfl (by show _ < 40; omega) rfl rfl ?_
  refine x_iload_n rfl rfl rfl ?_
  refine x_callVl (d2 := 0) (c_LL_atO (len := il) hG (lk_9 (by omega)) (j) hil (by omega) (by omega) (by omega)) rfl rfl v_8_217 rfl rfl (by show _ < 40; omega) rfl rfl (Nat.le_of_ble_eq_true rfl) (by omega) (by omega) ?_
  exact x_retL rfl rfl rfl (by omega) rfl rfl
set_option maxHeartbeats 4000000 in
set_option maxRecDepth 20000 in
theorem c_itemN (hG : Gok G) (hd : 1 ≤ d) {n : Nat} (hn : M.1 (1, 0) 5 = nI n) (hn2 : n ≤ 40) {i : Nat} (hi : i < n) {il : Nat} (hil : M.1 (9, i) 1 = nI il) (hil2 : il ≤ 8) {kd : Nat} (hkd : M.1 (8, i) 3 = nI kd) (hkd2 : kd < 16) (hne : kd ≠ 8) {j : Int32} (hj : j < 0) : Ct G mX8_item d [.ref (ga G (0, 0)), .int (nI i), .int (j)] M (.inl (some (.long ((-1))))) M 0 := by
  refine ct_of hG okX8_item (by decide +kernel) rfl (Nat.le_of_ble_eq_true rfl) ?_
  refine x_aload_n rfl rfl rfl ?_
  refine x_getR0 rfl rfl f_8_20 rfl (by decide) rfl rfl ?_
  refine x_iload_n rfl rfl rfl ?_
  refine x_i2lN (a := i) (by omega) rfl rfl ?_
  refine x_callVi (d2 := 0) (c_isThing hG (lN (i)) hn hn2) rfl rfl v_8_210 rfl rfl (by decide) rfl rfl (Nat.le_of_ble_eq_true rfl) (by omega) (by omega) ?_
  refine x_ifB_ne rfl rfl (fun hc1 => ?_) (fun hc1 => absurd (inTh hi hn2) hc1)
  refine x_aload_n rfl rfl rfl ?_
  refine x_getR0 rfl rfl f_8_20 rfl (by decide) rfl rfl ?_
  refine x_getR0 rfl rfl f_8_79 rfl (by decide) rfl rfl ?_
  refine x_iload_n rfl rfl rfl ?_
  refine x_aaldi (a := i) rfl rfl rfl (by decide) (by decide) (by omega) (by decide) rfl ?_
  refine x_astore_n rfl rfl rfl rfl ?_
  refine x_aload_n rfl rfl rfl ?_
  refine x_getIv (v := nI kd) hkd rfl rfl f_8_213 rfl (by show _ < 40; omega) rfl ?_
  refine x_bipush (v := nI 8) rfl rfl (by decide +kernel) ?_
  refine x_icmpN_ne (by omega) (by omega) rfl rfl (fun hc2 => ?_) (fun hc2 => absurd hc2 hne)
  refine x_aload_n rfl rfl rfl ?_
  refine x_getRi rfl rfl f_8_92 rfl (by show _ < 40; omega) rfl rfl ?_
  refine x_iload_n rfl rfl rfl ?_
  refine x_callVl (d2 := 0) (c_LL_atN hG (lk_9 (by omega)) (j) hj) rfl rfl v_8_217 rfl rfl (by show _ < 40; omega) rfl rfl (Nat.le_of_ble_eq_true rfl) (by omega) (by omega) ?_
  exact x_retL rfl rfl rfl (by omega) rfl rfl
set_option maxHeartbeats 4000000 in
set_option maxRecDepth 20000 in
theorem c_itemZN (hG : Gok G) (hd : 1 ≤ d) {n : Nat} (hn : M.1 (1, 0) 5 = nI n) (hn2 : n ≤ 40) {i : Nat} (hi : i < n) {il : Nat} (hil : M.1 (9, i) 1 = nI il) (hil2 : il ≤ 8) (hkd : M.1 (8, i) 3 = nI 8) {j : Int32} (hj : j < 0) : Ct G mX8_item d [.ref (ga G (0, 0)), .int (nI i), .int (j)] M (.inl (some (.long ((-1))))) M 0 := by
  refine ct_of hG okX8_item (by decide +kernel) rfl (Nat.le_of_ble_eq_true rfl) ?_
  refine x_aload_n rfl rfl rfl ?_
  refine x_getR0 rfl rfl f_8_20 rfl (by decide) rfl rfl ?_
  refine x_iload_n rfl rfl rfl ?_
  refine x_i2lN (a := i) (by omega) rfl rfl ?_
  refine x_callVi (d2 := 0) (c_isThing hG (lN (i)) hn hn2) rfl rfl v_8_210 rfl rfl (by decide) rfl rfl (Nat.le_of_ble_eq_true rfl) (by omega) (by omega) ?_
  refine x_ifB_ne rfl rfl (fun hc1 => ?_) (fun hc1 => absurd (inTh hi hn2) hc1)
  refine x_aload_n rfl rfl rfl ?_
  refine x_getR0 rfl rfl f_8_20 rfl (by decide) rfl rfl ?_
  refine x_getR0 rfl rfl f_8_79 rfl (by decide) rfl rfl ?_
  refine x_iload_n rfl rfl rfl ?_
  refine x_aaldi (a := i) rfl rfl rfl (by decide) (by decide) (by omega) (by decide) rfl ?_
  refine x_astore_n rfl rfl rfl rfl ?_
  refine x_aload_n rfl rfl rfl ?_
  refine x_getIv (v := nI 8) hkd rfl rfl f_8_213 rfl (by show _ < 40; omega) rfl ?_
  refine x_bipush (v := nI 8) rfl rfl (by decide +kernel) ?_
  refine x_icmpN_ne (by omega) (by omega) rfl rfl (fun hc2 => absurd rfl hc2) (fun hc2 => ?_)
  refine x_iload_n rfl rfl rfl ?_
  refine x_if_ne rfl rfl (fun hc3 => ?_) (fun hc3 => absurd (hc3 ▸ hj) (by decide +kernel))
  refine x_aload_n rfl rfl rfl ?_
  refine x_getRi rfl rfl f_8_92 rfl (by show _ < 40; omega) rfl rfl ?_
  refine x_iload_n rfl rfl rfl ?_
  refine x_callVl (d2 := 0) (c_LL_atN hG (lk_9 (by omega)) (j) hj) rfl rfl v_8_217 rfl rfl (by show _ < 40; omega) rfl rfl (Nat.le_of_ble_eq_true rfl) (by omega) (by omega) ?_
  exact x_retL rfl rfl rfl (by omega) rfl rfl
set_option maxHeartbeats 4000000 in
set_option maxRecDepth 20000 in
theorem c_pair1I (hG : Gok G) (hd : 1 ≤ d) {n : Nat} (hn : M.1 (1, 0) 5 = nI n) (hn2 : n ≤ 40) {i : Nat} (hi : i < n) {kl : Nat} (hkl : M.1 (11, i) 1 = nI kl) (hkl2 : kl ≤ 6) {j : Nat} (hj : j < kl) : Ct G mX8_pair d [.ref (ga G (0, 0)), .int (nI i), .int (nI j), .int (nI 1)] M (.inl (some (.long (M.2 (12, i) j)))) M 0 := by
  refine ct_of hG okX8_pair (by decide +kernel) rfl (Nat.le_of_ble_eq_true rfl) ?_
  refine x_aload_n rfl rfl rfl ?_
  refine x_getR0 rfl rfl f_8_20 rfl (by decide) rfl rfl ?_
  refine x_iload_n rfl rfl rfl ?_
  refine x_i2lN (a := i) (by omega) rfl rfl ?_
  refine x_callVi (d2 := 0) (c_isThing hG (lN (i)) hn hn2) rfl rfl v_8_210 rfl rfl (by decide) rfl rfl (Nat.le_of_ble_eq_true rfl) (by omega) (by omega) ?_
  refine x_ifB_ne rfl rfl (fun hc1 => ?_) (fun hc1 => absurd (inTh hi hn2) hc1)
  refine x_aload_n rfl rfl rfl ?_
  refine x_getR0 rfl rfl f_8_20 rfl (by decide) rfl rfl ?_
  refine x_getR0 rfl rfl f_8_79 rfl (by decide) rfl rfl ?_
  refine x_iload_n rfl rfl rfl ?_
  refine x_aaldi (a := i) rfl rfl rfl (by decide) (by decide) (by omega) (by decide) rfl ?_
  refine x_astore rfl rfl rfl rfl ?_
  refine x_iload_n rfl rfl rfl ?_
  refine x_if_eq rfl rfl (fun hc2 => absurd hc2 (by decide +kernel)) (fun _ => ?_)
  refine x_aload rfl rfl rfl ?_
  refine x_getRi rfl rfl f_8_158 rfl (by show _ < 40; omega) rfl rfl ?_
  refine x_iload_n rfl rfl rfl ?_
  refine x_callVl (d2 := 0) (c_LL_at (len := kl) hG (lk_11 (by omega)) (j) hkl (by omega) (by omega)) rfl rfl v_8_217 rfl rfl (by show _ < 40; omega) rfl rfl (Nat.le_of_ble_eq_true rfl) (by omega) (by omega) ?_
  refine x_goto rfl rfl ?_
  exact x_retL rfl rfl rfl (by omega) rfl rfl
set_option maxHeartbeats 4000000 in
set_option maxRecDepth 20000 in
theorem c_pair1O (hG : Gok G) (hd : 1 ≤ d) {n : Nat} (hn : M.1 (1, 0) 5 = nI n) (hn2 : n ≤ 40) {i : Nat} (hi : i < n) {kl : Nat} (hkl : M.1 (11, i) 1 = nI kl) (hkl2 : kl ≤ 6) {j : Nat} (hj : kl ≤ j) (hj2 : j < 2 ^ 31) : Ct G mX8_pair d [.ref (ga G (0, 0)), .int (nI i), .int (nI j), .int (nI 1)] M (.inl (some (.long ((-1))))) M 0 := by
  refine ct_of hG okX8_pair (by decide +kernel) rfl (Nat.le_of_ble_eq_true rfl) ?_
  refine x_aload_n rfl rfl rfl ?_
  refine x_getR0 rfl rfl f_8_20 rfl (by decide) rfl rfl ?_
  refine x_iload_n rfl rfl rfl ?_
  refine x_i2lN (a := i) (by omega) rfl rfl ?_
  refine x_callVi (d2 := 0) (c_isThing hG (lN (i)) hn hn2) rfl rfl v_8_210 rfl rfl (by decide) rfl rfl (Nat.le_of_ble_eq_true rfl) (by omega) (by omega) ?_
  refine x_ifB_ne rfl rfl (fun hc1 => ?_) (fun hc1 => absurd (inTh hi hn2) hc1)
  refine x_aload_n rfl rfl rfl ?_
  refine x_getR0 rfl rfl f_8_20 rfl (by decide) rfl rfl ?_
  refine x_getR0 rfl rfl f_8_79 rfl (by decide) rfl rfl ?_
  refine x_iload_n rfl rfl rfl ?_
  refine x_aaldi (a := i) rfl rfl rfl (by decide) (by decide) (by omega) (by decide) rfl ?_
  refine x_astore rfl rfl rfl rfl ?_
  refine x_iload_n rfl rfl rfl ?_
  refine x_if_eq rfl rfl (fun hc2 => absurd hc2 (by decide +kernel)) (fun _ => ?_)
  refine x_aload rfl rfl rfl ?_
  refine x_getRi rfl rfl f_8_158 rfl (by show _ < 40; omega) rfl rfl ?_
  refine x_iload_n rfl rfl rfl ?_
  refine x_callVl (d2 := 0) (c_LL_atO (len := kl) hG (lk_11 (by omega)) (j) hkl (by omega) (by omega) (by omega)) rfl rfl v_8_217 rfl rfl (by show _ < 40; omega) rfl rfl (Nat.le_of_ble_eq_true rfl) (by omega) (by omega) ?_
  refine x_goto rfl rfl ?_
  exact x_retL rfl rfl rfl (by omega) rfl rfl
set_option maxHeartbeats 4000000 in
set_option maxRecDepth 20000 in
theorem c_pair1N (hG : Gok G) (hd : 1 ≤ d) {n : Nat} (hn : M.1 (1, 0) 5 = nI n) (hn2 : n ≤ 40) {i : Nat} (hi : i < n) {kl : Nat} (hkl : M.1 (11, i) 1 = nI kl) (hkl2 : kl ≤ 6) {j : Int32} (hj : j < 0) : Ct G mX8_pair d [.ref (ga G (0, 0)), .int (nI i), .int (j), .int (nI 1)] M (.inl (some (.long ((-1))))) M 0 := by
  refine ct_of hG okX8_pair (by decide +kernel) rfl (Nat.le_of_ble_eq_true rfl) ?_
  refine x_aload_n rfl rfl rfl ?_
  refine x_getR0 rfl rfl f_8_20 rfl (by decide) rfl rfl ?_
  refine x_iload_n rfl rfl rfl ?_
  refine x_i2lN (a := i) (by omega) rfl rfl ?_
  refine x_callVi (d2 := 0) (c_isThing hG (lN (i)) hn hn2) rfl rfl v_8_210 rfl rfl (by decide) rfl rfl (Nat.le_of_ble_eq_true rfl) (by omega) (by omega) ?_
  refine x_ifB_ne rfl rfl (fun hc1 => ?_) (fun hc1 => absurd (inTh hi hn2) hc1)
  refine x_aload_n rfl rfl rfl ?_
  refine x_getR0 rfl rfl f_8_20 rfl (by decide) rfl rfl ?_
  refine x_getR0 rfl rfl f_8_79 rfl (by decide) rfl rfl ?_
  refine x_iload_n rfl rfl rfl ?_
  refine x_aaldi (a := i) rfl rfl rfl (by decide) (by decide) (by omega) (by decide) rfl ?_
  refine x_astore rfl rfl rfl rfl ?_
  refine x_iload_n rfl rfl rfl ?_
  refine x_if_eq rfl rfl (fun hc2 => absurd hc2 (by decide +kernel)) (fun _ => ?_)
  refine x_aload rfl rfl rfl ?_
  refine x_getRi rfl rfl f_8_158 rfl (by show _ < 40; omega) rfl rfl ?_
  refine x_iload_n rfl rfl rfl ?_
  refine x_callVl (d2 := 0) (c_LL_atN hG (lk_11 (by omega)) (j) hj) rfl rfl v_8_217 rfl rfl (by show _ < 40; omega) rfl rfl (Nat.le_of_ble_eq_true rfl) (by omega) (by omega) ?_
  refine x_goto rfl rfl ?_
  exact x_retL rfl rfl rfl (by omega) rfl rfl
set_option maxHeartbeats 4000000 in
set_option maxRecDepth 20000 in
theorem c_pair0I (hG : Gok G) (hd : 1 ≤ d) {n : Nat} (hn : M.1 (1, 0) 5 = nI n) (hn2 : n ≤ 40) {i : Nat} (hi : i < n) {vl : Nat} (hvl : M.1 (13, i) 1 = nI vl) (hvl2 : vl ≤ 6) {j : Nat} (hj : j < vl) : Ct G mX8_pair d [.ref (ga G (0, 0)), .int (nI i), .int (nI j), .int (nI 0)] M (.inl (some (.long (M.2 (14, i) j)))) M 0 := by
  refine ct_of hG okX8_pair (by decide +kernel) rfl (Nat.le_of_ble_eq_true rfl) ?_
  refine x_aload_n rfl rfl rfl ?_
  refine x_getR0 rfl rfl f_8_20 rfl (by decide) rfl rfl ?_
  refine x_iload_n rfl rfl rfl ?_
  refine x_i2lN (a := i) (by omega) rfl rfl ?_
  refine x_callVi (d2 := 0) (c_isThing hG (lN (i)) hn hn2) rfl rfl v_8_210 rfl rfl (by decide) rfl rfl (Nat.le_of_ble_eq_true rfl) (by omega) (by omega) ?_
  refine x_ifB_ne rfl rfl (fun hc1 => ?_) (fun hc1 => absurd (inTh hi hn2) hc1)
  refine x_aload_n rfl rfl rfl ?_
  refine x_getR0 rfl rfl f_8_20 rfl (by decide) rfl rfl ?_
  refine x_getR0 rfl rfl f_8_79 rfl (by decide) rfl rfl ?_
  refine x_iload_n rfl rfl rfl ?_
  refine x_aaldi (a := i) rfl rfl rfl (by decide) (by decide) (by omega) (by decide) rfl ?_
  refine x_astore rfl rfl rfl rfl ?_
  refine x_iload_n rfl rfl rfl ?_
  refine x_if_eq rfl rfl (fun _ => ?_) (fun hc2 => absurd hc2 (by decide +kernel))
  refine x_aload rfl rfl rfl ?_
  refine x_getRi rfl rfl f_8_165 rfl (by show _ < 40; omega) rfl rfl ?_
  refine x_iload_n rfl rfl rfl ?_
  refine x_callVl (d2 := 0) (c_LL_at (len := vl) hG (lk_13 (by omega)) (j) hvl (by omega) (by omega)) rfl rfl v_8_217 rfl rfl (by show _ < 40; omega) rfl rfl (Nat.le_of_ble_eq_true rfl) (by omega) (by omega) ?_
  exact x_retL rfl rfl rfl (by omega) rfl rfl
set_option maxHeartbeats 4000000 in
set_option maxRecDepth 20000 in
theorem c_pair0O (hG : Gok G) (hd : 1 ≤ d) {n : Nat} (hn : M.1 (1, 0) 5 = nI n) (hn2 : n ≤ 40) {i : Nat} (hi : i < n) {vl : Nat} (hvl : M.1 (13, i) 1 = nI vl) (hvl2 : vl ≤ 6) {j : Nat} (hj : vl ≤ j) (hj2 : j < 2 ^ 31) : Ct G mX8_pair d [.ref (ga G (0, 0)), .int (nI i), .int (nI j), .int (nI 0)] M (.inl (some (.long ((-1))))) M 0 := by
  refine ct_of hG okX8_pair (by decide +kernel) rfl (Nat.le_of_ble_eq_true rfl) ?_
  refine x_aload_n rfl rfl rfl ?_
  refine x_getR0 rfl rfl f_8_20 rfl (by decide) rfl rfl ?_
  refine x_iload_n rfl rfl rfl ?_
  refine x_i2lN (a := i) (by omega) rfl rfl ?_
  refine x_callVi (d2 := 0) (c_isThing hG (lN (i)) hn hn2) rfl rfl v_8_210 rfl rfl (by decide) rfl rfl (Nat.le_of_ble_eq_true rfl) (by omega) (by omega) ?_
  refine x_ifB_ne rfl rfl (fun hc1 => ?_) (fun hc1 => absurd (inTh hi hn2) hc1)
  refine x_aload_n rfl rfl rfl ?_
  refine x_getR0 rfl rfl f_8_20 rfl (by decide) rfl rfl ?_
  refine x_getR0 rfl rfl f_8_79 rfl (by decide) rfl rfl ?_
  refine x_iload_n rfl rfl rfl ?_
  refine x_aaldi (a := i) rfl rfl rfl (by decide) (by decide) (by omega) (by decide) rfl ?_
  refine x_astore rfl rfl rfl rfl ?_
  refine x_iload_n rfl rfl rfl ?_
  refine x_if_eq rfl rfl (fun _ => ?_) (fun hc2 => absurd hc2 (by decide +kernel))
  refine x_aload rfl rfl rfl ?_
  refine x_getRi rfl rfl f_8_165 rfl (by show _ < 40; omega) rfl rfl ?_
  refine x_iload_n rfl rfl rfl ?_
  refine x_callVl (d2 := 0) (c_LL_atO (len := vl) hG (lk_13 (by omega)) (j) hvl (by omega) (by omega) (by omega)) rfl rfl v_8_217 rfl rfl (by show _ < 40; omega) rfl rfl (Nat.le_of_ble_eq_true rfl) (by omega) (by omega) ?_
  exact x_retL rfl rfl rfl (by omega) rfl rfl
set_option maxHeartbeats 4000000 in
set_option maxRecDepth 20000 in
theorem c_pair0N (hG : Gok G) (hd : 1 ≤ d) {n : Nat} (hn : M.1 (1, 0) 5 = nI n) (hn2 : n ≤ 40) {i : Nat} (hi : i < n) {vl : Nat} (hvl : M.1 (13, i) 1 = nI vl) (hvl2 : vl ≤ 6) {j : Int32} (hj : j < 0) : Ct G mX8_pair d [.ref (ga G (0, 0)), .int (nI i), .int (j), .int (nI 0)] M (.inl (some (.long ((-1))))) M 0 := by
  refine ct_of hG okX8_pair (by decide +kernel) rfl (Nat.le_of_ble_eq_true rfl) ?_
  refine x_aload_n rfl rfl rfl ?_
  refine x_getR0 rfl rfl f_8_20 rfl (by decide) rfl rfl ?_
  refine x_iload_n rfl rfl rfl ?_
  refine x_i2lN (a := i) (by omega) rfl rfl ?_
  refine x_callVi (d2 := 0) (c_isThing hG (lN (i)) hn hn2) rfl rfl v_8_210 rfl rfl (by decide) rfl rfl (Nat.le_of_ble_eq_true rfl) (by omega) (by omega) ?_
  refine x_ifB_ne rfl rfl (fun hc1 => ?_) (fun hc1 => absurd (inTh hi hn2) hc1)
  refine x_aload_n rfl rfl rfl ?_
  refine x_getR0 rfl rfl f_8_20 rfl (by decide) rfl rfl ?_
  refine x_getR0 rfl rfl f_8_79 rfl (by decide) rfl rfl ?_
  refine x_iload_n rfl rfl rfl ?_
  refine x_aaldi (a := i) rfl rfl rfl (by decide) (by decide) (by omega) (by decide) rfl ?_
  refine x_astore rfl rfl rfl rfl ?_
  refine x_iload_n rfl rfl rfl ?_
  refine x_if_eq rfl rfl (fun _ => ?_) (fun hc2 => absurd hc2 (by decide +kernel))
  refine x_aload rfl rfl rfl ?_
  refine x_getRi rfl rfl f_8_165 rfl (by show _ < 40; omega) rfl rfl ?_
  refine x_iload_n rfl rfl rfl ?_
  refine x_callVl (d2 := 0) (c_LL_atN hG (lk_13 (by omega)) (j) hj) rfl rfl v_8_217 rfl rfl (by show _ < 40; omega) rfl rfl (Nat.le_of_ble_eq_true rfl) (by omega) (by omega) ?_
  exact x_retL rfl rfl rfl (by omega) rfl rfl
set_option maxHeartbeats 4000000 in
set_option maxRecDepth 20000 in
theorem c_pairT (hG : Gok G) (hd : 1 ≤ d) {n : Nat} (hn : M.1 (1, 0) 5 = nI n) (hn2 : n ≤ 40) {th : Int32} (ho : ∀ i, i < n → th ≠ nI i) (j k : Int32) : Ct G mX8_pair d [.ref (ga G (0, 0)), .int (th), .int (j), .int (k)] M (.inl (some (.long ((-1))))) M 0 := by
  refine ct_of hG okX8_pair (by decide +kernel) rfl (Nat.le_of_ble_eq_true rfl) ?_
  refine x_aload_n rfl rfl rfl ?_
  refine x_getR0 rfl rfl f_8_20 rfl (by decide) rfl rfl ?_
  refine x_iload_n rfl rfl rfl ?_
  refine x_i2l rfl rfl ?_
  refine x_callVi (d2 := 0) (c_isThing hG ((th).toInt64) hn hn2) rfl rfl v_8_210 rfl rfl (by decide) rfl rfl (Nat.le_of_ble_eq_true rfl) (by omega) (by omega) ?_
  refine x_ifB_ne rfl rfl (fun hc1 => absurd hc1 (outTh ho hn2)) (fun hc1 => ?_)
  refine x_ldc2 (v := -1) rfl rfl k_8_215 ?_
  exact x_retL rfl rfl rfl (by omega) rfl rfl
set_option maxHeartbeats 4000000 in
set_option maxRecDepth 20000 in
theorem c_clear (hG : Gok G) (hd : 1 ≤ d) : Ct G mX8_clear d [.ref (ga G (0, 0))] M (.inl none) (ui (ui (ui M (1, 0) 3 (nI 0)) (1, 0) 4 (nI 0)) (1, 0) 5 (nI 0)) 0 := by
  refine ct_of hG okX8_clear (by decide +kernel) rfl (Nat.le_of_ble_eq_true rfl) ?_
  refine x_aload_n rfl rfl rfl ?_
  refine x_getR0 rfl rfl f_8_20 rfl (by decide) rfl rfl ?_
  refine x_iconstN (b := 0) rfl rfl ?_
  refine x_iconstN (b := 0) rfl rfl ?_
  refine x_iconstN (b := 0) rfl rfl ?_
  refine x_callVv (d2 := 0) (c_St_keepOnly hG (nI 0) (nI 0) (nI 0)) rfl rfl v_8_227 rfl rfl (by decide) rfl rfl (Nat.le_of_ble_eq_true rfl) (by omega) (by omega) ?_
  exact x_retV rfl rfl rfl (by omega) rfl rfl
set_option maxHeartbeats 4000000 in
set_option maxRecDepth 20000 in
theorem c_cut (hG : Gok G) {rn : Nat} (hr : M.1 (15, 0) 1 = nI rn) (hr2 : rn ≤ 600) {j : Nat} (hj : j ≤ rn) : Ct G mX8_cut d [.ref (ga G (0, 0)), .int (nI j)] M (.inl (some (.int (nI 1)))) (ui M (15, 0) 1 (nI j)) 0 := by
  refine ct_of hG okX8_cut (by decide +kernel) rfl (Nat.le_of_ble_eq_true rfl) ?_
  refine x_iload_n rfl rfl rfl ?_
  refine x_ifN_lt (by omega) rfl rfl (fun hc1 => hc1.elim) (fun hc1 => ?_)
  refine x_iload_n rfl rfl rfl ?_
  refine x_aload_n rfl rfl rfl ?_
  refine x_getR0 rfl rfl f_8_24 rfl (by decide) rfl rfl ?_
  refine x_getIv (v := nI rn) hr rfl rfl f_8_186 rfl (by decide) rfl ?_
  refine x_icmpN_le (by omega) (by omega) rfl rfl (fun hc2 => ?_) (fun hc2 => absurd hc2 (by omega))
  refine x_aload_n rfl rfl rfl ?_
  refine x_getR0 rfl rfl f_8_24 rfl (by decide) rfl rfl ?_
  refine x_iload_n rfl rfl rfl ?_
  refine x_putI rfl rfl f_8_186 rfl rfl (by decide) rfl ?_
  refine x_iconstN (b := 1) rfl rfl ?_
  exact x_retZ rfl rfl rfl (by first | exact Or.inl rfl | exact Or.inr rfl) (by omega) rfl rfl
set_option maxHeartbeats 4000000 in
set_option maxRecDepth 20000 in
theorem c_cutO (hG : Gok G) {rn : Nat} (hr : M.1 (15, 0) 1 = nI rn) (hr2 : rn ≤ 600) {j : Nat} (hj : rn < j) (hj2 : j < 2 ^ 31) : Ct G mX8_cut d [.ref (ga G (0, 0)), .int (nI j)] M (.inl (some (.int (nI 0)))) M 0 := by
  refine ct_of hG okX8_cut (by decide +kernel) rfl (Nat.le_of_ble_eq_true rfl) ?_
  refine x_iload_n rfl rfl rfl ?_
  refine x_ifN_lt (by omega) rfl rfl (fun hc1 => hc1.elim) (fun hc1 => ?_)
  refine x_iload_n rfl rfl rfl ?_
  refine x_aload_n rfl rfl rfl ?_
  refine x_getR0 rfl rfl f_8_24 rfl (by decide) rfl rfl ?_
  refine x_getIv (v := nI rn) hr rfl rfl f_8_186 rfl (by decide) rfl ?_
  refine x_icmpN_le (by omega) (by omega) rfl rfl (fun hc2 => absurd hc2 (by omega)) (fun hc2 => ?_)
  refine x_iconstN (b := 0) rfl rfl ?_
  exact x_retZ rfl rfl rfl (by first | exact Or.inl rfl | exact Or.inr rfl) (by omega) rfl rfl
set_option maxHeartbeats 4000000 in
set_option maxRecDepth 20000 in
theorem c_cutN (hG : Gok G) {i : Int32} (hi : i < 0) : Ct G mX8_cut d [.ref (ga G (0, 0)), .int (i)] M (.inl (some (.int (nI 0)))) M 0 := by
  refine ct_of hG okX8_cut (by decide +kernel) rfl (Nat.le_of_ble_eq_true rfl) ?_
  refine x_iload_n rfl rfl rfl ?_
  refine x_if_lt rfl rfl (fun hc1 => ?_) (fun hc1 => absurd hi hc1)
  refine x_iconstN (b := 0) rfl rfl ?_
  exact x_retZ rfl rfl rfl (by first | exact Or.inl rfl | exact Or.inr rfl) (by omega) rfl rfl
set_option maxHeartbeats 4000000 in
set_option maxRecDepth 20000 in
theorem c_wide (hG : Gok G) (hd : 1 ≤ d) (b : Int64) {w : Nat} (hw : M.1 (1, 0) 3 = nI w) (hw2 : w < 40) : Ct G mX8_wide d [.ref (ga G (0, 0)), .long (b)] M (.inl (some (.long (16 * (lN (w)) + (nI 5).toInt64)))) (ui (ul M (2, 0) w b) (1, 0) 3 (nI (w + 1))) 0 := by
  refine ct_of hG okX8_wide (by decide +kernel) rfl (Nat.le_of_ble_eq_true rfl) ?_
  refine x_aload_n rfl rfl rfl ?_
  refine x_getR0 rfl rfl f_8_20 rfl (by decide) rfl rfl ?_
  refine x_getIv (v := nI w) hw rfl rfl f_8_57 rfl (by decide) rfl ?_
  refine x_bipush (v := nI 40) rfl rfl (by decide +kernel) ?_
  refine x_icmpN_ne (by omega) (by omega) rfl rfl (fun hc1 => ?_) (fun hc1 => absurd hc1 (by omega))
  refine x_aload_n rfl rfl rfl ?_
  refine x_getR0 rfl rfl f_8_20 rfl (by decide) rfl rfl ?_
  refine x_getR0 rfl rfl f_8_64 rfl (by decide) rfl rfl ?_
  refine x_aload_n rfl rfl rfl ?_
  refine x_getR0 rfl rfl f_8_20 rfl (by decide) rfl rfl ?_
  refine x_getIv (v := nI w) hw rfl rfl f_8_57 rfl (by decide) rfl ?_
  refine x_lload_n rfl rfl rfl ?_
  refine x_last (a := w) rfl rfl rfl (by decide) (by omega) (by decide) ?_
  refine x_aload_n rfl rfl rfl ?_
  refine x_getR0 rfl rfl f_8_20 rfl (by decide) rfl rfl ?_
  refine x_dup rfl rfl rfl ?_
  refine x_getIv (v := nI w) (by first | exact hw | (rw [← hw]; rfl) | simp [ui, ul, hw]) rfl rfl f_8_57 rfl (by decide) rfl ?_
  refine x_iconstN (b := 1) rfl rfl ?_
  refine x_iaddN (a := w) (b := 1) rfl rfl ?_
  refine x_putI rfl rfl f_8_57 rfl rfl (by decide) rfl ?_
  refine x_iconstN (b := 5) rfl rfl ?_
  refine x_aload_n rfl rfl rfl ?_
  refine x_getR0 rfl rfl f_8_20 rfl (by decide) rfl rfl ?_
  refine x_getIv (v := nI (w + 1)) (by first | rfl | simp [ui, ul]) rfl rfl f_8_57 rfl (by decide) rfl ?_
  refine x_iconstN (b := 1) rfl rfl ?_
  refine x_isubN (a := w + 1) (b := 1) (by omega) rfl rfl ?_
  refine x_i2lN (a := w) (by omega) rfl rfl ?_
  refine x_callSl (d2 := 0) (c_valueOf hG (nI 5) (lN (w))) rfl rfl s_8_68 rfl rfl (Nat.le_of_ble_eq_true rfl) (by omega) (by omega) ?_
  exact x_retL rfl rfl rfl (by omega) rfl rfl
set_option maxHeartbeats 4000000 in
set_option maxRecDepth 20000 in
theorem c_wideX (hG : Gok G) (hd : 6 ≤ d) (b : Int64) (hw : M.1 (1, 0) 3 = nI 40) : Ct G mX8_wide d [.ref (ga G (0, 0)), .long (b)] M (.inr "java/lang/IllegalStateException") M 1 := by
  refine ct_of hG okX8_wide (by decide +kernel) rfl (Nat.le_of_ble_eq_true rfl) ?_
  refine x_aload_n rfl rfl rfl ?_
  refine x_getR0 rfl rfl f_8_20 rfl (by decide) rfl rfl ?_
  refine x_getIv (v := nI 40) hw rfl rfl f_8_57 rfl (by decide) rfl ?_
  refine x_bipush (v := nI 40) rfl rfl (by decide +kernel) ?_
  refine x_icmpN_ne (by omega) (by omega) rfl rfl (fun hc1 => absurd rfl hc1) (fun hc1 => ?_)
  exact x_throw rfl rfl rfl rfl rfl rfl rfl rfl th_8_61_63 (Nat.le_of_ble_eq_true rfl) (by omega) (by omega)
end C6
end
section
section C7
variable {G : Gd} {d : Nat} {M : Mm}
theorem max_I {a b : Nat} (ha : a < 2 ^ 31) (hb : b < 2 ^ 31) : (if nI a < nI b then nI b else nI a) = nI (max a b) := by
  by_cases h : a < b
  · rw [if_pos ((nI_ltI ha hb).mpr h), Nat.max_eq_right (by omega)]
  · rw [if_neg (fun z => h ((nI_ltI ha hb).mp z)), Nat.max_eq_left (by omega)]
theorem w_max : Cond.methodLink (cnm 8) 201 Lib.Math.max.name ∈ lw_tbl ∧ Cond.static Lib.Math.max.name ∈ lw_tbl ∧ Cond.initialized "java/lang/Math" ∈ lw_tbl ∧ Cond.code Lib.Math.max.name Lib.Math.max.code 2 (some .int) ∈ lw_tbl :=
  ⟨List.mem_of_getElem? (i := 413) (by decide +kernel), List.mem_of_getElem? (i := 414) (by decide +kernel), List.mem_of_getElem? (i := 90) (by decide +kernel), List.mem_of_getElem? (i := 415) (by decide +kernel)⟩
theorem x_maxN {y : Mt} {kf : Nat} {Z : Zt} {k pc n t : Nat} {lv : List (Nat × Value)} {st : List Value} (hy : yC y = 8) (a b : Nat) (ha : a < 2 ^ 31) (hb9 : b < 2 ^ 31) (hi : tget (yT y) pc = some (.invokestatic 201, n, t)) (hn : pc + 3 = n) (hW : (st.map fun v => v.category).sum ≤ 8) (hd1 : 1 ≤ d) (hk : k ≤ kf) (kk : Fr G y d kf Z k n lv (.int (nI (max a b)) :: st) M) : Fr G y d kf Z k pc lv (.int (nI b) :: .int (nI a) :: st) M := by
  intro p e R s m args below meth c H locs ls C hx hH hL
  obtain ⟨hg, hok, ha9, hb, hret, hlk, hml, hown, hwm, hs1, hs2, hR1, hR2, hR3, hR4⟩ := id C
  have hd := (hok.get hi).1
  subst hn
  rw [Nat.add_sub_cancel_left] at hd
  rw [hy] at hown
  obtain ⟨w1, w2, w3, w4⟩ := w_max
  refine va_mmax ha9 hb (hml.trans hL.1.symm) hown (hg.1 _ w1 rfl args s hwm) (hg.1 _ w2 rfl args s hwm) (hg.1 _ w3 rfl args s hwm) (hg.1 _ w4 rfl args s hwm) (by omega) (by omega) (by omega) (by omega) hd ?_
  rw [max_I ha hb9]
  exact kk p e R s m args below meth c H locs ls C hx hH hL
theorem nIm1 {j : Nat} (h : j < 2 ^ 31) : ¬ nI j = -1 := by
  intro z
  have h1 : (nI j).toInt = (-1 : Int32).toInt := by rw [z]
  rw [nI_toInt h] at h1
  have h2 : (-1 : Int32).toInt = -1 := by decide +kernel
  omega
set_option maxHeartbeats 4000000 in
set_option maxRecDepth 20000 in
theorem c_date (hG : Gok G) (hd : 3 ≤ d) (b : Int64) {n : Nat} (hn : M.1 (1, 0) 5 = nI n) (hn2 : n < 40) : Ct G mX8_date d [.ref (ga G (0, 0)), .long (b)] M (.inl (some (.long (16 * (lN (n)) + (nI 7).toInt64)))) (ul (ui (ui (ui (ui (ul (ui (ui M (8, n) 3 (nI 8)) (8, n) 4 ((-1))) (8, n) 5 0) (9, n) 1 (nI 0)) (11, n) 1 (nI 0)) (13, n) 1 (nI 0)) (1, 0) 5 (nI (n + 1))) (8, n) 5 b) 0 := by
  refine ct_of hG okX8_date (by decide +kernel) rfl (Nat.le_of_ble_eq_true rfl) ?_
  refine x_aload_n rfl rfl rfl ?_
  refine x_callVv (d2 := 0) (c_refuse0 (n := n) hG hn (by omega)) rfl rfl v_8_72 rfl rfl (by decide) rfl rfl (Nat.le_of_ble_eq_true rfl) (by omega) (by omega) ?_
  refine x_aload_n rfl rfl rfl ?_
  refine x_getR0 rfl rfl f_8_20 rfl (by decide) rfl rfl ?_
  refine x_bipush (v := nI 8) rfl rfl (by decide +kernel) ?_
  refine x_callVi (d2 := 2) (c_makeThing (n := n) hG (Nat.le_refl 2) (nI 8) hn (by omega)) rfl rfl v_8_75 rfl rfl (by decide) rfl rfl (Nat.le_of_ble_eq_true rfl) (by omega) (by omega) ?_
  refine x_istore_n rfl rfl rfl rfl ?_
  refine x_aload_n rfl rfl rfl ?_
  refine x_getR0 rfl rfl f_8_20 rfl (by decide) rfl rfl ?_
  refine x_getR0 rfl rfl f_8_79 rfl (by decide) rfl rfl ?_
  refine x_iload_n rfl rfl rfl ?_
  refine x_aaldi (a := n) rfl rfl rfl (by decide) (by decide) (by omega) (by decide) rfl ?_
  refine x_lload_n rfl rfl rfl ?_
  refine x_putL rfl rfl f_8_83 rfl rfl (by show _ < 40; omega) rfl ?_
  refine x_bipush (v := nI 7) rfl rfl (by decide +kernel) ?_
  refine x_iload_n rfl rfl rfl ?_
  refine x_i2lN (a := n) (by omega) rfl rfl ?_
  refine x_callSl (d2 := 0) (c_valueOf hG (nI 7) (lN (n))) rfl rfl s_8_68 rfl rfl (Nat.le_of_ble_eq_true rfl) (by omega) (by omega) ?_
  exact x_retL rfl rfl rfl (by omega) rfl rfl
set_option maxHeartbeats 4000000 in
set_option maxRecDepth 20000 in
theorem c_dateX (hG : Gok G) (hd : 7 ≤ d) (b : Int64) (hn : M.1 (1, 0) 5 = nI 40) : Ct G mX8_date d [.ref (ga G (0, 0)), .long (b)] M (.inr "java/lang/IllegalStateException") M 1 := by
  refine ct_of hG okX8_date (by decide +kernel) rfl (Nat.le_of_ble_eq_true rfl) ?_
  refine x_aload_n rfl rfl rfl ?_
  exact x_throwV (d2 := 6) (c_refuse1 hG (Nat.le_refl 6) hn) rfl rfl v_8_72 rfl rfl (by decide) rfl rfl (Nat.le_of_ble_eq_true rfl) (by omega) (by omega)
set_option maxHeartbeats 4000000 in
set_option maxRecDepth 20000 in
theorem c_array (hG : Gok G) (hd : 3 ≤ d) {n : Nat} (hn : M.1 (1, 0) 5 = nI n) (hn2 : n < 40) : Ct G mX8_array d [.ref (ga G (0, 0))] M (.inl (some (.long (16 * (lN (n)) + (nI 7).toInt64)))) (ui (ui (ui (ui (ul (ui (ui M (8, n) 3 (nI 9)) (8, n) 4 ((-1))) (8, n) 5 0) (9, n) 1 (nI 0)) (11, n) 1 (nI 0)) (13, n) 1 (nI 0)) (1, 0) 5 (nI (n + 1))) 0 := by
  refine ct_of hG okX8_array (by decide +kernel) rfl (Nat.le_of_ble_eq_true rfl) ?_
  refine x_aload_n rfl rfl rfl ?_
  refine x_callVv (d2 := 0) (c_refuse0 (n := n) hG hn (by omega)) rfl rfl v_8_72 rfl rfl (by decide) rfl rfl (Nat.le_of_ble_eq_true rfl) (by omega) (by omega) ?_
  refine x_bipush (v := nI 7) rfl rfl (by decide +kernel) ?_
  refine x_aload_n rfl rfl rfl ?_
  refine x_getR0 rfl rfl f_8_20 rfl (by decide) rfl rfl ?_
  refine x_bipush (v := nI 9) rfl rfl (by decide +kernel) ?_
  refine x_callVi (d2 := 2) (c_makeThing (n := n) hG (Nat.le_refl 2) (nI 9) hn (by omega)) rfl rfl v_8_75 rfl rfl (by decide) rfl rfl (Nat.le_of_ble_eq_true rfl) (by omega) (by omega) ?_
  refine x_i2lN (a := n) (by omega) rfl rfl ?_
  refine x_callSl (d2 := 0) (c_valueOf hG (nI 7) (lN (n))) rfl rfl s_8_68 rfl rfl (Nat.le_of_ble_eq_true rfl) (by omega) (by omega) ?_
  exact x_retL rfl rfl rfl (by omega) rfl rfl
set_option maxHeartbeats 4000000 in
set_option maxRecDepth 20000 in
theorem c_arrayX (hG : Gok G) (hd : 7 ≤ d) (hn : M.1 (1, 0) 5 = nI 40) : Ct G mX8_array d [.ref (ga G (0, 0))] M (.inr "java/lang/IllegalStateException") M 1 := by
  refine ct_of hG okX8_array (by decide +kernel) rfl (Nat.le_of_ble_eq_true rfl) ?_
  refine x_aload_n rfl rfl rfl ?_
  exact x_throwV (d2 := 6) (c_refuse1 hG (Nat.le_refl 6) hn) rfl rfl v_8_72 rfl rfl (by decide) rfl rfl (Nat.le_of_ble_eq_true rfl) (by omega) (by omega)
set_option maxHeartbeats 4000000 in
set_option maxRecDepth 20000 in
theorem c_bytes0 (hG : Gok G) (hd : 3 ≤ d) (b : Int64) {n : Nat} (hn : M.1 (1, 0) 5 = nI n) (hn2 : n < 40) : Ct G mX8_bytes d [.ref (ga G (0, 0)), .long (b), .int (nI 0)] M (.inl (some (.long (16 * (lN (n)) + (nI 7).toInt64)))) (ui (ui (ui (ui (ul (ui (ui M (8, n) 3 (nI 12)) (8, n) 4 ((-1))) (8, n) 5 0) (9, n) 1 (nI 0)) (11, n) 1 (nI 0)) (13, n) 1 (nI 0)) (1, 0) 5 (nI (n + 1))) 0 := by
  refine ct_of hG okX8_bytes (by decide +kernel) rfl (Nat.le_of_ble_eq_true rfl) ?_
  refine x_iload_n rfl rfl rfl ?_
  refine x_if_lt rfl rfl (fun hc1 => absurd hc1 (by decide +kernel)) (fun _ => ?_)
  refine x_iload_n rfl rfl rfl ?_
  refine x_bipush (v := nI 8) rfl rfl (by decide +kernel) ?_
  refine x_icmpN_le (by omega) (by omega) rfl rfl (fun hc2 => ?_) (fun hc2 => absurd hc2 (by omega))
  refine x_aload_n rfl rfl rfl ?_
  refine x_callVv (d2 := 0) (c_refuse0 (n := n) hG hn (by omega)) rfl rfl v_8_72 rfl rfl (by decide) rfl rfl (Nat.le_of_ble_eq_true rfl) (by omega) (by omega) ?_
  refine x_aload_n rfl rfl rfl ?_
  refine x_getR0 rfl rfl f_8_20 rfl (by decide) rfl rfl ?_
  refine x_bipush (v := nI 12) rfl rfl (by decide +kernel) ?_
  refine x_callVi (d2 := 2) (c_makeThing (n := n) hG (Nat.le_refl 2) (nI 12) hn (by omega)) rfl rfl v_8_75 rfl rfl (by decide) rfl rfl (Nat.le_of_ble_eq_true rfl) (by omega) (by omega) ?_
  refine x_istore rfl rfl rfl rfl ?_
  refine x_iconstN (b := 0) rfl rfl ?_
  refine x_istore rfl rfl rfl rfl ?_
  refine x_iload rfl rfl rfl ?_
  refine x_iload_n rfl rfl rfl ?_
  refine x_icmpN_ge (by omega) (by omega) rfl rfl (fun hc3 => ?_) (fun hc3 => absurd hc3 (by omega))
  refine x_bipush (v := nI 7) rfl rfl (by decide +kernel) ?_
  refine x_iload rfl rfl rfl ?_
  refine x_i2lN (a := n) (by omega) rfl rfl ?_
  refine x_callSl (d2 := 0) (c_valueOf hG (nI 7) (lN (n))) rfl rfl s_8_68 rfl rfl (Nat.le_of_ble_eq_true rfl) (by omega) (by omega) ?_
  exact x_retL rfl rfl rfl (by omega) rfl rfl
set_option maxHeartbeats 4000000 in
set_option maxRecDepth 20000 in
theorem c_bytes1 (hG : Gok G) (hd : 3 ≤ d) (b : Int64) {n : Nat} (hn : M.1 (1, 0) 5 = nI n) (hn2 : n < 40) : Ct G mX8_bytes d [.ref (ga G (0, 0)), .long (b), .int (nI 1)] M (.inl (some (.long (16 * (lN (n)) + (nI 7).toInt64)))) (ui (ul (ui (ui (ui (ui (ul (ui (ui M (8, n) 3 (nI 12)) (8, n) 4 ((-1))) (8, n) 5 0) (9, n) 1 (nI 0)) (11, n) 1 (nI 0)) (13, n) 1 (nI 0)) (1, 0) 5 (nI (n + 1))) (10, n) 0 (16 * ((b >>> ((nI 0).toInt64 &&& 63)) &&& 255) + (nI 4).toInt64)) (9, n) 1 (nI 1)) 0 := by
  refine ct_of hG okX8_bytes (by decide +kernel) rfl (Nat.le_of_ble_eq_true rfl) ?_
  refine x_iload_n rfl rfl rfl ?_
  refine x_if_lt rfl rfl (fun hc1 => absurd hc1 (by decide +kernel)) (fun _ => ?_)
  refine x_iload_n rfl rfl rfl ?_
  refine x_bipush (v := nI 8) rfl rfl (by decide +kernel) ?_
  refine x_icmpN_le (by omega) (by omega) rfl rfl (fun hc2 => ?_) (fun hc2 => absurd hc2 (by omega))
  refine x_aload_n rfl rfl rfl ?_
  refine x_callVv (d2 := 0) (c_refuse0 (n := n) hG hn (by omega)) rfl rfl v_8_72 rfl rfl (by decide) rfl rfl (Nat.le_of_ble_eq_true rfl) (by omega) (by omega) ?_
  refine x_aload_n rfl rfl rfl ?_
  refine x_getR0 rfl rfl f_8_20 rfl (by decide) rfl rfl ?_
  refine x_bipush (v := nI 12) rfl rfl (by decide +kernel) ?_
  refine x_callVi (d2 := 2) (c_makeThing (n := n) hG (Nat.le_refl 2) (nI 12) hn (by omega)) rfl rfl v_8_75 rfl rfl (by decide) rfl rfl (Nat.le_of_ble_eq_true rfl) (by omega) (by omega) ?_
  refine x_istore rfl rfl rfl rfl ?_
  refine x_iconstN (b := 0) rfl rfl ?_
  refine x_istore rfl rfl rfl rfl ?_
  refine x_iload rfl rfl rfl ?_
  refine x_iload_n rfl rfl rfl ?_
  refine x_icmpN_ge (by omega) (by omega) rfl rfl (fun hc3 => absurd hc3 (by omega)) (fun hc3 => ?_)
  refine x_aload_n rfl rfl rfl ?_
  refine x_getR0 rfl rfl f_8_20 rfl (by decide) rfl rfl ?_
  refine x_getR0 rfl rfl f_8_79 rfl (by decide) rfl rfl ?_
  refine x_iload rfl rfl rfl ?_
  refine x_aaldi (a := n) rfl rfl rfl (by decide) (by decide) (by omega) (by decide) rfl ?_
  refine x_getRi rfl rfl f_8_92 rfl (by show _ < 40; omega) rfl rfl ?_
  refine x_iconstN (b := 4) rfl rfl ?_
  refine x_lload_n rfl rfl rfl ?_
  refine x_bipush (v := nI 8) rfl rfl (by decide +kernel) ?_
  refine x_iload rfl rfl rfl ?_
  refine x_imulN (a := 8) (b := 0) rfl rfl ?_
  refine x_lshr rfl rfl ?_
  refine x_ldc2 (v := 255) rfl rfl k_8_95 ?_
  refine x_land rfl rfl ?_
  refine x_callSl (d2 := 0) (c_valueOf hG (nI 4) ((b >>> ((nI 0).toInt64 &&& 63)) &&& 255)) rfl rfl s_8_68 rfl rfl (Nat.le_of_ble_eq_true rfl) (by omega) (by omega) ?_
  refine x_callVv (d2 := 0) (c_LL_add (len := 0) hG (lk_9 (by omega)) (16 * ((b >>> ((nI 0).toInt64 &&& 63)) &&& 255) + (nI 4).toInt64) (by first | rfl | simp [ui, ul]) (by omega)) rfl rfl v_8_97 rfl rfl (by show _ < 40; omega) rfl rfl (Nat.le_of_ble_eq_true rfl) (by omega) (by omega) ?_
  refine x_iincN (a := 0) (b := 1) rfl rfl rfl rfl rfl ?_
  refine x_goto rfl rfl ?_
  refine x_iload rfl rfl rfl ?_
  refine x_iload_n rfl rfl rfl ?_
  refine x_icmpN_ge (by omega) (by omega) rfl rfl (fun hc4 => ?_) (fun hc4 => absurd hc4 (by omega))
  refine x_bipush (v := nI 7) rfl rfl (by decide +kernel) ?_
  refine x_iload rfl rfl rfl ?_
  refine x_i2lN (a := n) (by omega) rfl rfl ?_
  refine x_callSl (d2 := 0) (c_valueOf hG (nI 7) (lN (n))) rfl rfl s_8_68 rfl rfl (Nat.le_of_ble_eq_true rfl) (by omega) (by omega) ?_
  exact x_retL rfl rfl rfl (by omega) rfl rfl
set_option maxHeartbeats 4000000 in
set_option maxRecDepth 20000 in
theorem c_bytes2 (hG : Gok G) (hd : 3 ≤ d) (b : Int64) {n : Nat} (hn : M.1 (1, 0) 5 = nI n) (hn2 : n < 40) : Ct G mX8_bytes d [.ref (ga G (0, 0)), .long (b), .int (nI 2)] M (.inl (some (.long (16 * (lN (n)) + (nI 7).toInt64)))) (ui (ul (ui (ul (ui (ui (ui (ui (ul (ui (ui M (8, n) 3 (nI 12)) (8, n) 4 ((-1))) (8, n) 5 0) (9, n) 1 (nI 0)) (11, n) 1 (nI 0)) (13, n) 1 (nI 0)) (1, 0) 5 (nI (n + 1))) (10, n) 0 (16 * ((b >>> ((nI 0).toInt64 &&& 63)) &&& 255) + (nI 4).toInt64)) (9, n) 1 (nI 1)) (10, n) 1 (16 * ((b >>> ((nI 8).toInt64 &&& 63)) &&& 255) + (nI 4).toInt64)) (9, n) 1 (nI 2)) 0 := by
  refine ct_of hG okX8_bytes (by decide +kernel) rfl (Nat.le_of_ble_eq_true rfl) ?_
  refine x_iload_n rfl rfl rfl ?_
  refine x_if_lt rfl rfl (fun hc1 => absurd hc1 (by decide +kernel)) (fun _ => ?_)
  refine x_iload_n rfl rfl rfl ?_
  refine x_bipush (v := nI 8) rfl rfl (by decide +kernel) ?_
  refine x_icmpN_le (by omega) (by omega) rfl rfl (fun hc2 => ?_) (fun hc2 => absurd hc2 (by omega))
  refine x_aload_n rfl rfl rfl ?_
  refine x_callVv (d2 := 0) (c_refuse0 (n := n) hG hn (by omega)) rfl rfl v_8_72 rfl rfl (by decide) rfl rfl (Nat.le_of_ble_eq_true rfl) (by omega) (by omega) ?_
  refine x_aload_n rfl rfl rfl ?_
  refine x_getR0 rfl rfl f_8_20 rfl (by decide) rfl rfl ?_
  refine x_bipush (v := nI 12) rfl rfl (by decide +kernel) ?_
  refine x_callVi (d2 := 2) (c_makeThing (n := n) hG (Nat.le_refl 2) (nI 12) hn (by omega)) rfl rfl v_8_75 rfl rfl (by decide) rfl rfl (Nat.le_of_ble_eq_true rfl) (by omega) (by omega) ?_
  refine x_istore rfl rfl rfl rfl ?_
  refine x_iconstN (b := 0) rfl rfl ?_
  refine x_istore rfl rfl rfl rfl ?_
  refine x_iload rfl rfl rfl ?_
  refine x_iload_n rfl rfl rfl ?_
  refine x_icmpN_ge (by omega) (by omega) rfl rfl (fun hc3 => absurd hc3 (by omega)) (fun hc3 => ?_)
  refine x_aload_n rfl rfl rfl ?_
  refine x_getR0 rfl rfl f_8_20 rfl (by decide) rfl rfl ?_
  refine x_getR0 rfl rfl f_8_79 rfl (by decide) rfl rfl ?_
  refine x_iload rfl rfl rfl ?_
  refine x_aaldi (a := n) rfl rfl rfl (by decide) (by decide) (by omega) (by decide) rfl ?_
  refine x_getRi rfl rfl f_8_92 rfl (by show _ < 40; omega) rfl rfl ?_
  refine x_iconstN (b := 4) rfl rfl ?_
  refine x_lload_n rfl rfl rfl ?_
  refine x_bipush (v := nI 8) rfl rfl (by decide +kernel) ?_
  refine x_iload rfl rfl rfl ?_
  refine x_imulN (a := 8) (b := 0) rfl rfl ?_
  refine x_lshr rfl rfl ?_
  refine x_ldc2 (v := 255) rfl rfl k_8_95 ?_
  refine x_land rfl rfl ?_
  refine x_callSl (d2 := 0) (c_valueOf hG (nI 4) ((b >>> ((nI 0).toInt64 &&& 63)) &&& 255)) rfl rfl s_8_68 rfl rfl (Nat.le_of_ble_eq_true rfl) (by omega) (by omega) ?_
  refine x_callVv (d2 := 0) (c_LL_add (len := 0) hG (lk_9 (by omega)) (16 * ((b >>> ((nI 0).toInt64 &&& 63)) &&& 255) + (nI 4).toInt64) (by first | rfl | simp [ui, ul]) (by omega)) rfl rfl v_8_97 rfl rfl (by show _ < 40; omega) rfl rfl (Nat.le_of_ble_eq_true rfl) (by omega) (by omega) ?_
  refine x_iincN (a := 0) (b := 1) rfl rfl rfl rfl rfl ?_
  refine x_goto rfl rfl ?_
  refine x_iload rfl rfl rfl ?_
  refine x_iload_n rfl rfl rfl ?_
  refine x_icmpN_ge (by omega) (by omega) rfl rfl (fun hc4 => absurd hc4 (by omega)) (fun hc4 => ?_)
  refine x_aload_n rfl rfl rfl ?_
  refine x_getR0 rfl rfl f_8_20 rfl (by decide) rfl rfl ?_
  refine x_getR0 rfl rfl f_8_79 rfl (by decide) rfl rfl ?_
  refine x_iload rfl rfl rfl ?_
  refine x_aaldi (a := n) rfl rfl rfl (by decide) (by decide) (by omega) (by decide) rfl ?_
  refine x_getRi rfl rfl f_8_92 rfl (by show _ < 40; omega) rfl rfl ?_
  refine x_iconstN (b := 4) rfl rfl ?_
  refine x_lload_n rfl rfl rfl ?_
  refine x_bipush (v := nI 8) rfl rfl (by decide +kernel) ?_
  refine x_iload rfl rfl rfl ?_
  refine x_imulN (a := 8) (b := 1) rfl rfl ?_
  refine x_lshr rfl rfl ?_
  refine x_ldc2 (v := 255) rfl rfl k_8_95 ?_
  refine x_land rfl rfl ?_
  refine x_callSl (d2 := 0) (c_valueOf hG (nI 4) ((b >>> ((nI 8).toInt64 &&& 63)) &&& 255)) rfl rfl s_8_68 rfl rfl (Nat.le_of_ble_eq_true rfl) (by omega) (by omega) ?_
  refine x_callVv (d2 := 0) (c_LL_add (len := 1) hG (lk_9 (by omega)) (16 * ((b >>> ((nI 8).toInt64 &&& 63)) &&& 255) + (nI 4).toInt64) (by first | rfl | simp [ui, ul]) (by omega)) rfl rfl v_8_97 rfl rfl (by show _ < 40; omega) rfl rfl (Nat.le_of_ble_eq_true rfl) (by omega) (by omega) ?_
  refine x_iincN (a := 1) (b := 1) rfl rfl rfl rfl rfl ?_
  refine x_goto rfl rfl ?_
  refine x_iload rfl rfl rfl ?_
  refine x_iload_n rfl rfl rfl ?_
  refine x_icmpN_ge (by omega) (by omega) rfl rfl (fun hc5 => ?_) (fun hc5 => absurd hc5 (by omega))
  refine x_bipush (v := nI 7) rfl rfl (by decide +kernel) ?_
  refine x_iload rfl rfl rfl ?_
  refine x_i2lN (a := n) (by omega) rfl rfl ?_
  refine x_callSl (d2 := 0) (c_valueOf hG (nI 7) (lN (n))) rfl rfl s_8_68 rfl rfl (Nat.le_of_ble_eq_true rfl) (by omega) (by omega) ?_
  exact x_retL rfl rfl rfl (by omega) rfl rfl
set_option maxHeartbeats 4000000 in
set_option maxRecDepth 20000 in
theorem c_bytes3 (hG : Gok G) (hd : 3 ≤ d) (b : Int64) {n : Nat} (hn : M.1 (1, 0) 5 = nI n) (hn2 : n < 40) : Ct G mX8_bytes d [.ref (ga G (0, 0)), .long (b), .int (nI 3)] M (.inl (some (.long (16 * (lN (n)) + (nI 7).toInt64)))) (ui (ul (ui (ul (ui (ul (ui (ui (ui (ui (ul (ui (ui M (8, n) 3 (nI 12)) (8, n) 4 ((-1))) (8, n) 5 0) (9, n) 1 (nI 0)) (11, n) 1 (nI 0)) (13, n) 1 (nI 0)) (1, 0) 5 (nI (n + 1))) (10, n) 0 (16 * ((b >>> ((nI 0).toInt64 &&& 63)) &&& 255) + (nI 4).toInt64)) (9, n) 1 (nI 1)) (10, n) 1 (16 * ((b >>> ((nI 8).toInt64 &&& 63)) &&& 255) + (nI 4).toInt64)) (9, n) 1 (nI 2)) (10, n) 2 (16 * ((b >>> ((nI 16).toInt64 &&& 63)) &&& 255) + (nI 4).toInt64)) (9, n) 1 (nI 3)) 0 := by
  refine ct_of hG okX8_bytes (by decide +kernel) rfl (Nat.le_of_ble_eq_true rfl) ?_
  refine x_iload_n rfl rfl rfl ?_
  refine x_if_lt rfl rfl (fun hc1 => absurd hc1 (by decide +kernel)) (fun _ => ?_)
  refine x_iload_n rfl rfl rfl ?_
  refine x_bipush (v := nI 8) rfl rfl (by decide +kernel) ?_
  refine x_icmpN_le (by omega) (by omega) rfl rfl (fun hc2 => ?_) (fun hc2 => absurd hc2 (by omega))
  refine x_aload_n rfl rfl rfl ?_
  refine x_callVv (d2 := 0) (c_refuse0 (n := n) hG hn (by omega)) rfl rfl v_8_72 rfl rfl (by decide) rfl rfl (Nat.le_of_ble_eq_true rfl) (by omega) (by omega) ?_
  refine x_aload_n rfl rfl rfl ?_
  refine x_getR0 rfl rfl f_8_20 rfl (by decide) rfl rfl ?_
  refine x_bipush (v := nI 12) rfl rfl (by decide +kernel) ?_
  refine x_callVi (d2 := 2) (c_makeThing (n := n) hG (Nat.le_refl 2) (nI 12) hn (by omega)) rfl rfl v_8_75 rfl rfl (by decide) rfl rfl (Nat.le_of_ble_eq_true rfl) (by omega) (by omega) ?_
  refine x_istore rfl rfl rfl rfl ?_
  refine x_iconstN (b := 0) rfl rfl ?_
  refine x_istore rfl rfl rfl rfl ?_
  refine x_iload rfl rfl rfl ?_
  refine x_iload_n rfl rfl rfl ?_
  refine x_icmpN_ge (by omega) (by omega) rfl rfl (fun hc3 => absurd hc3 (by omega)) (fun hc3 => ?_)
  refine x_aload_n rfl rfl rfl ?_
  refine x_getR0 rfl rfl f_8_20 rfl (by decide) rfl rfl ?_
  refine x_getR0 rfl rfl f_8_79 rfl (by decide) rfl rfl ?_
  refine x_iload rfl rfl rfl ?_
  refine x_aaldi (a := n) rfl rfl rfl (by decide) (by decide) (by omega) (by decide) rfl ?_
  refine x_getRi rfl rfl f_8_92 rfl (by show _ < 40; omega) rfl rfl ?_
  refine x_iconstN (b := 4) rfl rfl ?_
  refine x_lload_n rfl rfl rfl ?_
  refine x_bipush (v := nI 8) rfl rfl (by decide +kernel) ?_
  refine x_iload rfl rfl rfl ?_
  refine x_imulN (a := 8) (b := 0) rfl rfl ?_
  refine x_lshr rfl rfl ?_
  refine x_ldc2 (v := 255) rfl rfl k_8_95 ?_
  refine x_land rfl rfl ?_
  refine x_callSl (d2 := 0) (c_valueOf hG (nI 4) ((b >>> ((nI 0).toInt64 &&& 63)) &&& 255)) rfl rfl s_8_68 rfl rfl (Nat.le_of_ble_eq_true rfl) (by omega) (by omega) ?_
  refine x_callVv (d2 := 0) (c_LL_add (len := 0) hG (lk_9 (by omega)) (16 * ((b >>> ((nI 0).toInt64 &&& 63)) &&& 255) + (nI 4).toInt64) (by first | rfl | simp [ui, ul]) (by omega)) rfl rfl v_8_97 rfl rfl (by show _ < 40; omega) rfl rfl (Nat.le_of_ble_eq_true rfl) (by omega) (by omega) ?_
  refine x_iincN (a := 0) (b := 1) rfl rfl rfl rfl rfl ?_
  refine x_goto rfl rfl ?_
  refine x_iload rfl rfl rfl ?_
  refine x_iload_n rfl rfl rfl ?_
  refine x_icmpN_ge (by omega) (by omega) rfl rfl (fun hc4 => absurd hc4 (by omega)) (fun hc4 => ?_)
  refine x_aload_n rfl rfl rfl ?_
  refine x_getR0 rfl rfl f_8_20 rfl (by decide) rfl rfl ?_
  refine x_getR0 rfl rfl f_8_79 rfl (by decide) rfl rfl ?_
  refine x_iload rfl rfl rfl ?_
  refine x_aaldi (a := n) rfl rfl rfl (by decide) (by decide) (by omega) (by decide) rfl ?_
  refine x_getRi rfl rfl f_8_92 rfl (by show _ < 40; omega) rfl rfl ?_
  refine x_iconstN (b := 4) rfl rfl ?_
  refine x_lload_n rfl rfl rfl ?_
  refine x_bipush (v := nI 8) rfl rfl (by decide +kernel) ?_
  refine x_iload rfl rfl rfl ?_
  refine x_imulN (a := 8) (b := 1) rfl rfl ?_
  refine x_lshr rfl rfl ?_
  refine x_ldc2 (v := 255) rfl rfl k_8_95 ?_
  refine x_land rfl rfl ?_
  refine x_callSl (d2 := 0) (c_valueOf hG (nI 4) ((b >>> ((nI 8).toInt64 &&& 63)) &&& 255)) rfl rfl s_8_68 rfl rfl (Nat.le_of_ble_eq_true rfl) (by omega) (by omega) ?_
  refine x_callVv (d2 := 0) (c_LL_add (len := 1) hG (lk_9 (by omega)) (16 * ((b >>> ((nI 8).toInt64 &&& 63)) &&& 255) + (nI 4).toInt64) (by first | rfl | simp [ui, ul]) (by omega)) rfl rfl v_8_97 rfl rfl (by show _ < 40; omega) rfl rfl (Nat.le_of_ble_eq_true rfl) (by omega) (by omega) ?_
  refine x_iincN (a := 1) (b := 1) rfl rfl rfl rfl rfl ?_
  refine x_goto rfl rfl ?_
  refine x_iload rfl rfl rfl ?_
  refine x_iload_n rfl rfl rfl ?_
  refine x_icmpN_ge (by omega) (by omega) rfl rfl (fun hc5 => absurd hc5 (by omega)) (fun hc5 => ?_)
  refine x_aload_n rfl rfl rfl ?_
  refine x_getR0 rfl rfl f_8_20 rfl (by decide) rfl rfl ?_
  refine x_getR0 rfl rfl f_8_79 rfl (by decide) rfl rfl ?_
  refine x_iload rfl rfl rfl ?_
  refine x_aaldi (a := n) rfl rfl rfl (by decide) (by decide) (by omega) (by decide) rfl ?_
  refine x_getRi rfl rfl f_8_92 rfl (by show _ < 40; omega) rfl rfl ?_
  refine x_iconstN (b := 4) rfl rfl ?_
  refine x_lload_n rfl rfl rfl ?_
  refine x_bipush (v := nI 8) rfl rfl (by decide +kernel) ?_
  refine x_iload rfl rfl rfl ?_
  refine x_imulN (a := 8) (b := 2) rfl rfl ?_
  refine x_lshr rfl rfl ?_
  refine x_ldc2 (v := 255) rfl rfl k_8_95 ?_
  refine x_land rfl rfl ?_
  refine x_callSl (d2 := 0) (c_valueOf hG (nI 4) ((b >>> ((nI 16).toInt64 &&& 63)) &&& 255)) rfl rfl s_8_68 rfl rfl (Nat.le_of_ble_eq_true rfl) (by omega) (by omega) ?_
  refine x_callVv (d2 := 0) (c_LL_add (len := 2) hG (lk_9 (by omega)) (16 * ((b >>> ((nI 16).toInt64 &&& 63)) &&& 255) + (nI 4).toInt64) (by first | rfl | simp [ui, ul]) (by omega)) rfl rfl v_8_97 rfl rfl (by show _ < 40; omega) rfl rfl (Nat.le_of_ble_eq_true rfl) (by omega) (by omega) ?_
  refine x_iincN (a := 2) (b := 1) rfl rfl rfl rfl rfl ?_
  refine x_goto rfl rfl ?_
  refine x_iload rfl rfl rfl ?_
  refine x_iload_n rfl rfl rfl ?_
  refine x_icmpN_ge (by omega) (by omega) rfl rfl (fun hc6 => ?_) (fun hc6 => absurd hc6 (by omega))
  refine x_bipush (v := nI 7) rfl rfl (by decide +kernel) ?_
  refine x_iload rfl rfl rfl ?_
  refine x_i2lN (a := n) (by omega) rfl rfl ?_
  refine x_callSl (d2 := 0) (c_valueOf hG (nI 7) (lN (n))) rfl rfl s_8_68 rfl rfl (Nat.le_of_ble_eq_true rfl) (by omega) (by omega) ?_
  exact x_retL rfl rfl rfl (by omega) rfl rfl
set_option maxHeartbeats 4000000 in
set_option maxRecDepth 20000 in
theorem c_bytes4 (hG : Gok G) (hd : 3 ≤ d) (b : Int64) {n : Nat} (hn : M.1 (1, 0) 5 = nI n) (hn2 : n < 40) : Ct G mX8_bytes d [.ref (ga G (0, 0)), .long (b), .int (nI 4)] M (.inl (some (.long (16 * (lN (n)) + (nI 7).toInt64)))) (ui (ul (ui (ul (ui (ul (ui (ul (ui (ui (ui (ui (ul (ui (ui M (8, n) 3 (nI 12)) (8, n) 4 ((-1))) (8, n) 5 0) (9, n) 1 (nI 0)) (11, n) 1 (nI 0)) (13, n) 1 (nI 0)) (1, 0) 5 (nI (n + 1))) (10, n) 0 (16 * ((b >>> ((nI 0).toInt64 &&& 63)) &&& 255) + (nI 4).toInt64)) (9, n) 1 (nI 1)) (10, n) 1 (16 * ((b >>> ((nI 8).toInt64 &&& 63)) &&& 255) + (nI 4).toInt64)) (9, n) 1 (nI 2)) (10, n) 2 (16 * ((b >>> ((nI 16).toInt64 &&& 63)) &&& 255) + (nI 4).toInt64)) (9, n) 1 (nI 3)) (10, n) 3 (16 * ((b >>> ((nI 24).toInt64 &&& 63)) &&& 255) + (nI 4).toInt64)) (9, n) 1 (nI 4)) 0 := by
  refine ct_of hG okX8_bytes (by decide +kernel) rfl (Nat.le_of_ble_eq_true rfl) ?_
  refine x_iload_n rfl rfl rfl ?_
  refine x_if_lt rfl rfl (fun hc1 => absurd hc1 (by decide +kernel)) (fun _ => ?_)
  refine x_iload_n rfl rfl rfl ?_
  refine x_bipush (v := nI 8) rfl rfl (by decide +kernel) ?_
  refine x_icmpN_le (by omega) (by omega) rfl rfl (fun hc2 => ?_) (fun hc2 => absurd hc2 (by omega))
  refine x_aload_n rfl rfl rfl ?_
  refine x_callVv (d2 := 0) (c_refuse0 (n := n) hG hn (by omega)) rfl rfl v_8_72 rfl rfl (by decide) rfl rfl (Nat.le_of_ble_eq_true rfl) (by omega) (by omega) ?_
  refine x_aload_n rfl rfl rfl ?_
  refine x_getR0 rfl rfl f_8_20 rfl (by decide) rfl rfl ?_
  refine x_bipush (v := nI 12) rfl rfl (by decide +kernel) ?_
  refine x_callVi (d2 := 2) (c_makeThing (n := n) hG (Nat.le_refl 2) (nI 12) hn (by omega)) rfl rfl v_8_75 rfl rfl (by decide) rfl rfl (Nat.le_of_ble_eq_true rfl) (by omega) (by omega) ?_
  refine x_istore rfl rfl rfl rfl ?_
  refine x_iconstN (b := 0) rfl rfl ?_
  refine x_istore rfl rfl rfl rfl ?_
  refine x_iload rfl rfl rfl ?_
  refine x_iload_n rfl rfl rfl ?_
  refine x_icmpN_ge (by omega) (by omega) rfl rfl (fun hc3 => absurd hc3 (by omega)) (fun hc3 => ?_)
  refine x_aload_n rfl rfl rfl ?_
  refine x_getR0 rfl rfl f_8_20 rfl (by decide) rfl rfl ?_
  refine x_getR0 rfl rfl f_8_79 rfl (by decide) rfl rfl ?_
  refine x_iload rfl rfl rfl ?_
  refine x_aaldi (a := n) rfl rfl rfl (by decide) (by decide) (by omega) (by decide) rfl ?_
  refine x_getRi rfl rfl f_8_92 rfl (by show _ < 40; omega) rfl rfl ?_
  refine x_iconstN (b := 4) rfl rfl ?_
  refine x_lload_n rfl rfl rfl ?_
  refine x_bipush (v := nI 8) rfl rfl (by decide +kernel) ?_
  refine x_iload rfl rfl rfl ?_
  refine x_imulN (a := 8) (b := 0) rfl rfl ?_
  refine x_lshr rfl rfl ?_
  refine x_ldc2 (v := 255) rfl rfl k_8_95 ?_
  refine x_land rfl rfl ?_
  refine x_callSl (d2 := 0) (c_valueOf hG (nI 4) ((b >>> ((nI 0).toInt64 &&& 63)) &&& 255)) rfl rfl s_8_68 rfl rfl (Nat.le_of_ble_eq_true rfl) (by omega) (by omega) ?_
  refine x_callVv (d2 := 0) (c_LL_add (len := 0) hG (lk_9 (by omega)) (16 * ((b >>> ((nI 0).toInt64 &&& 63)) &&& 255) + (nI 4).toInt64) (by first | rfl | simp [ui, ul]) (by omega)) rfl rfl v_8_97 rfl rfl (by show _ < 40; omega) rfl rfl (Nat.le_of_ble_eq_true rfl) (by omega) (by omega) ?_
  refine x_iincN (a := 0) (b := 1) rfl rfl rfl rfl rfl ?_
  refine x_goto rfl rfl ?_
  refine x_iload rfl rfl rfl ?_
  refine x_iload_n rfl rfl rfl ?_
  refine x_icmpN_ge (by omega) (by omega) rfl rfl (fun hc4 => absurd hc4 (by omega)) (fun hc4 => ?_)
  refine x_aload_n rfl rfl rfl ?_
  refine x_getR0 rfl rfl f_8_20 rfl (by decide) rfl rfl ?_
  refine x_getR0 rfl rfl f_8_79 rfl (by decide) rfl rfl ?_
  refine x_iload rfl rfl rfl ?_
  refine x_aaldi (a := n) rfl rfl rfl (by decide) (by decide) (by omega) (by decide) rfl ?_
  refine x_getRi rfl rfl f_8_92 rfl (by show _ < 40; omega) rfl rfl ?_
  refine x_iconstN (b := 4) rfl rfl ?_
  refine x_lload_n rfl rfl rfl ?_
  refine x_bipush (v := nI 8) rfl rfl (by decide +kernel) ?_
  refine x_iload rfl rfl rfl ?_
  refine x_imulN (a := 8) (b := 1) rfl rfl ?_
  refine x_lshr rfl rfl ?_
  refine x_ldc2 (v := 255) rfl rfl k_8_95 ?_
  refine x_land rfl rfl ?_
  refine x_callSl (d2 := 0) (c_valueOf hG (nI 4) ((b >>> ((nI 8).toInt64 &&& 63)) &&& 255)) rfl rfl s_8_68 rfl rfl (Nat.le_of_ble_eq_true rfl) (by omega) (by omega) ?_
  refine x_callVv (d2 := 0) (c_LL_add (len := 1) hG (lk_9 (by omega)) (16 * ((b >>> ((nI 8).toInt64 &&& 63)) &&& 255) + (nI 4).toInt64) (by first | rfl | simp [ui, ul]) (by omega)) rfl rfl v_8_97 rfl rfl (by show _ < 40; omega) rfl rfl (Nat.le_of_ble_eq_true rfl) (by omega) (by omega) ?_
  refine x_iincN (a := 1) (b := 1) rfl rfl rfl rfl rfl ?_
  refine x_goto rfl rfl ?_
  refine x_iload rfl rfl rfl ?_
  refine x_iload_n rfl rfl rfl ?_
  refine x_icmpN_ge (by omega) (by omega) rfl rfl (fun hc5 => absurd hc5 (by omega)) (fun hc5 => ?_)
  refine x_aload_n rfl rfl rfl ?_
  refine x_getR0 rfl rfl f_8_20 rfl (by decide) rfl rfl ?_
  refine x_getR0 rfl rfl f_8_79 rfl (by decide) rfl rfl ?_
  refine x_iload rfl rfl rfl ?_
  refine x_aaldi (a := n) rfl rfl rfl (by decide) (by decide) (by omega) (by decide) rfl ?_
  refine x_getRi rfl rfl f_8_92 rfl (by show _ < 40; omega) rfl rfl ?_
  refine x_iconstN (b := 4) rfl rfl ?_
  refine x_lload_n rfl rfl rfl ?_
  refine x_bipush (v := nI 8) rfl rfl (by decide +kernel) ?_
  refine x_iload rfl rfl rfl ?_
  refine x_imulN (a := 8) (b := 2) rfl rfl ?_
  refine x_lshr rfl rfl ?_
  refine x_ldc2 (v := 255) rfl rfl k_8_95 ?_
  refine x_land rfl rfl ?_
  refine x_callSl (d2 := 0) (c_valueOf hG (nI 4) ((b >>> ((nI 16).toInt64 &&& 63)) &&& 255)) rfl rfl s_8_68 rfl rfl (Nat.le_of_ble_eq_true rfl) (by omega) (by omega) ?_
  refine x_callVv (d2 := 0) (c_LL_add (len := 2) hG (lk_9 (by omega)) (16 * ((b >>> ((nI 16).toInt64 &&& 63)) &&& 255) + (nI 4).toInt64) (by first | rfl | simp [ui, ul]) (by omega)) rfl rfl v_8_97 rfl rfl (by show _ < 40; omega) rfl rfl (Nat.le_of_ble_eq_true rfl) (by omega) (by omega) ?_
  refine x_iincN (a := 2) (b := 1) rfl rfl rfl rfl rfl ?_
  refine x_goto rfl rfl ?_
  refine x_iload rfl rfl rfl ?_
  refine x_iload_n rfl rfl rfl ?_
  refine x_icmpN_ge (by omega) (by omega) rfl rfl (fun hc6 => absurd hc6 (by omega)) (fun hc6 => ?_)
  refine x_aload_n rfl rfl rfl ?_
  refine x_getR0 rfl rfl f_8_20 rfl (by decide) rfl rfl ?_
  refine x_getR0 rfl rfl f_8_79 rfl (by decide) rfl rfl ?_
  refine x_iload rfl rfl rfl ?_
  refine x_aaldi (a := n) rfl rfl rfl (by decide) (by decide) (by omega) (by decide) rfl ?_
  refine x_getRi rfl rfl f_8_92 rfl (by show _ < 40; omega) rfl rfl ?_
  refine x_iconstN (b := 4) rfl rfl ?_
  refine x_lload_n rfl rfl rfl ?_
  refine x_bipush (v := nI 8) rfl rfl (by decide +kernel) ?_
  refine x_iload rfl rfl rfl ?_
  refine x_imulN (a := 8) (b := 3) rfl rfl ?_
  refine x_lshr rfl rfl ?_
  refine x_ldc2 (v := 255) rfl rfl k_8_95 ?_
  refine x_land rfl rfl ?_
  refine x_callSl (d2 := 0) (c_valueOf hG (nI 4) ((b >>> ((nI 24).toInt64 &&& 63)) &&& 255)) rfl rfl s_8_68 rfl rfl (Nat.le_of_ble_eq_true rfl) (by omega) (by omega) ?_
  refine x_callVv (d2 := 0) (c_LL_add (len := 3) hG (lk_9 (by omega)) (16 * ((b >>> ((nI 24).toInt64 &&& 63)) &&& 255) + (nI 4).toInt64) (by first | rfl | simp [ui, ul]) (by omega)) rfl rfl v_8_97 rfl rfl (by show _ < 40; omega) rfl rfl (Nat.le_of_ble_eq_true rfl) (by omega) (by omega) ?_
  refine x_iincN (a := 3) (b := 1) rfl rfl rfl rfl rfl ?_
  refine x_goto rfl rfl ?_
  refine x_iload rfl rfl rfl ?_
  refine x_iload_n rfl rfl rfl ?_
  refine x_icmpN_ge (by omega) (by omega) rfl rfl (fun hc7 => ?_) (fun hc7 => absurd hc7 (by omega))
  refine x_bipush (v := nI 7) rfl rfl (by decide +kernel) ?_
  refine x_iload rfl rfl rfl ?_
  refine x_i2lN (a := n) (by omega) rfl rfl ?_
  refine x_callSl (d2 := 0) (c_valueOf hG (nI 7) (lN (n))) rfl rfl s_8_68 rfl rfl (Nat.le_of_ble_eq_true rfl) (by omega) (by omega) ?_
  exact x_retL rfl rfl rfl (by omega) rfl rfl
set_option maxHeartbeats 4000000 in
set_option maxRecDepth 20000 in
theorem c_bytes5 (hG : Gok G) (hd : 3 ≤ d) (b : Int64) {n : Nat} (hn : M.1 (1, 0) 5 = nI n) (hn2 : n < 40) : Ct G mX8_bytes d [.ref (ga G (0, 0)), .long (b), .int (nI 5)] M (.inl (some (.long (16 * (lN (n)) + (nI 7).toInt64)))) (ui (ul (ui (ul (ui (ul (ui (ul (ui (ul (ui (ui (ui (ui (ul (ui (ui M (8, n) 3 (nI 12)) (8, n) 4 ((-1))) (8, n) 5 0) (9, n) 1 (nI 0)) (11, n) 1 (nI 0)) (13, n) 1 (nI 0)) (1, 0) 5 (nI (n + 1))) (10, n) 0 (16 * ((b >>> ((nI 0).toInt64 &&& 63)) &&& 255) + (nI 4).toInt64)) (9, n) 1 (nI 1)) (10, n) 1 (16 * ((b >>> ((nI 8).toInt64 &&& 63)) &&& 255) + (nI 4).toInt64)) (9, n) 1 (nI 2)) (10, n) 2 (16 * ((b >>> ((nI 16).toInt64 &&& 63)) &&& 255) + (nI 4).toInt64)) (9, n) 1 (nI 3)) (10, n) 3 (16 * ((b >>> ((nI 24).toInt64 &&& 63)) &&& 255) + (nI 4).toInt64)) (9, n) 1 (nI 4)) (10, n) 4 (16 * ((b >>> ((nI 32).toInt64 &&& 63)) &&& 255) + (nI 4).toInt64)) (9, n) 1 (nI 5)) 0 := by
  refine ct_of hG okX8_bytes (by decide +kernel) rfl (Nat.le_of_ble_eq_true rfl) ?_
  refine x_iload_n rfl rfl rfl ?_
  refine x_if_lt rfl rfl (fun hc1 => absurd hc1 (by decide +kernel)) (fun _ => ?_)
  refine x_iload_n rfl rfl rfl ?_
  refine x_bipush (v := nI 8) rfl rfl (by decide +kernel) ?_
  refine x_icmpN_le (by omega) (by omega) rfl rfl (fun hc2 => ?_) (fun hc2 => absurd hc2 (by omega))
  refine x_aload_n rfl rfl rfl ?_
  refine x_callVv (d2 := 0) (c_refuse0 (n := n) hG hn (by omega)) rfl rfl v_8_72 rfl rfl (by decide) rfl rfl (Nat.le_of_ble_eq_true rfl) (by omega) (by omega) ?_
  refine x_aload_n rfl rfl rfl ?_
  refine x_getR0 rfl rfl f_8_20 rfl (by decide) rfl rfl ?_
  refine x_bipush (v := nI 12) rfl rfl (by decide +kernel) ?_
  refine x_callVi (d2 := 2) (c_makeThing (n := n) hG (Nat.le_refl 2) (nI 12) hn (by omega)) rfl rfl v_8_75 rfl rfl (by decide) rfl rfl (Nat.le_of_ble_eq_true rfl) (by omega) (by omega) ?_
  refine x_istore rfl rfl rfl rfl ?_
  refine x_iconstN (b := 0) rfl rfl ?_
  refine x_istore rfl rfl rfl rfl ?_
  refine x_iload rfl rfl rfl ?_
  refine x_iload_n rfl rfl rfl ?_
  refine x_icmpN_ge (by omega) (by omega) rfl rfl (fun hc3 => absurd hc3 (by omega)) (fun hc3 => ?_)
  refine x_aload_n rfl rfl rfl ?_
  refine x_getR0 rfl rfl f_8_20 rfl (by decide) rfl rfl ?_
  refine x_getR0 rfl rfl f_8_79 rfl (by decide) rfl rfl ?_
  refine x_iload rfl rfl rfl ?_
  refine x_aaldi (a := n) rfl rfl rfl (by decide) (by decide) (by omega) (by decide) rfl ?_
  refine x_getRi rfl rfl f_8_92 rfl (by show _ < 40; omega) rfl rfl ?_
  refine x_iconstN (b := 4) rfl rfl ?_
  refine x_lload_n rfl rfl rfl ?_
  refine x_bipush (v := nI 8) rfl rfl (by decide +kernel) ?_
  refine x_iload rfl rfl rfl ?_
  refine x_imulN (a := 8) (b := 0) rfl rfl ?_
  refine x_lshr rfl rfl ?_
  refine x_ldc2 (v := 255) rfl rfl k_8_95 ?_
  refine x_land rfl rfl ?_
  refine x_callSl (d2 := 0) (c_valueOf hG (nI 4) ((b >>> ((nI 0).toInt64 &&& 63)) &&& 255)) rfl rfl s_8_68 rfl rfl (Nat.le_of_ble_eq_true rfl) (by omega) (by omega) ?_
  refine x_callVv (d2 := 0) (c_LL_add (len := 0) hG (lk_9 (by omega)) (16 * ((b >>> ((nI 0).toInt64 &&& 63)) &&& 255) + (nI 4).toInt64) (by first | rfl | simp [ui, ul]) (by omega)) rfl rfl v_8_97 rfl rfl (by show _ < 40; omega) rfl rfl (Nat.le_of_ble_eq_true rfl) (by omega) (by omega) ?_
  refine x_iincN (a := 0) (b := 1) rfl rfl rfl rfl rfl ?_
  refine x_goto rfl rfl ?_
  refine x_iload rfl rfl rfl ?_
  refine x_iload_n rfl rfl rfl ?_
  refine x_icmpN_ge (by omega) (by omega) rfl rfl (fun hc4 => absurd hc4 (by omega)) (fun hc4 => ?_)
  refine x_aload_n rfl rfl rfl ?_
  refine x_getR0 rfl rfl f_8_20 rfl (by decide) rfl rfl ?_
  refine x_getR0 rfl rfl f_8_79 rfl (by decide) rfl rfl ?_
  refine x_iload rfl rfl rfl ?_
  refine x_aaldi (a := n) rfl rfl rfl (by decide) (by decide) (by omega) (by decide) rfl ?_
  refine x_getRi rfl rfl f_8_92 rfl (by show _ < 40; omega) rfl rfl ?_
  refine x_iconstN (b := 4) rfl rfl ?_
  refine x_lload_n rfl rfl rfl ?_
  refine x_bipush (v := nI 8) rfl rfl (by decide +kernel) ?_
  refine x_iload rfl rfl rfl ?_
  refine x_imulN (a := 8) (b := 1) rfl rfl ?_
  refine x_lshr rfl rfl ?_
  refine x_ldc2 (v := 255) rfl rfl k_8_95 ?_
  refine x_land rfl rfl ?_
  refine x_callSl (d2 := 0) (c_valueOf hG (nI 4) ((b >>> ((nI 8).toInt64 &&& 63)) &&& 255)) rfl rfl s_8_68 rfl rfl (Nat.le_of_ble_eq_true rfl) (by omega) (by omega) ?_
  refine x_callVv (d2 := 0) (c_LL_add (len := 1) hG (lk_9 (by omega)) (16 * ((b >>> ((nI 8).toInt64 &&& 63)) &&& 255) + (nI 4).toInt64) (by first | rfl | simp [ui, ul]) (by omega)) rfl rfl v_8_97 rfl rfl (by show _ < 40; omega) rfl rfl (Nat.le_of_ble_eq_true rfl) (by omega) (by omega) ?_
  refine x_iincN (a := 1) (b := 1) rfl rfl rfl rfl rfl ?_
  refine x_goto rfl rfl ?_
  refine x_iload rfl rfl rfl ?_
  refine x_iload_n rfl rfl rfl ?_
  refine x_icmpN_ge (by omega) (by omega) rfl rfl (fun hc5 => absurd hc5 (by omega)) (fun hc5 => ?_)
  refine x_aload_n rfl rfl rfl ?_
  refine x_getR0 rfl rfl f_8_20 rfl (by decide) rfl rfl ?_
  refine x_getR0 rfl rfl f_8_79 rfl (by decide) rfl rfl ?_
  refine x_iload rfl rfl rfl ?_
  refine x_aaldi (a := n) rfl rfl rfl (by decide) (by decide) (by omega) (by decide) rfl ?_
  refine x_getRi rfl rfl f_8_92 rfl (by show _ < 40; omega) rfl rfl ?_
  refine x_iconstN (b := 4) rfl rfl ?_
  refine x_lload_n rfl rfl rfl ?_
  refine x_bipush (v := nI 8) rfl rfl (by decide +kernel) ?_
  refine x_iload rfl rfl rfl ?_
  refine x_imulN (a := 8) (b := 2) rfl rfl ?_
  refine x_lshr rfl rfl ?_
  refine x_ldc2 (v := 255) rfl rfl k_8_95 ?_
  refine x_land rfl rfl ?_
  refine x_callSl (d2 := 0) (c_valueOf hG (nI 4) ((b >>> ((nI 16).toInt64 &&& 63)) &&& 255)) rfl rfl s_8_68 rfl rfl (Nat.le_of_ble_eq_true rfl) (by omega) (by omega) ?_
  refine x_callVv (d2 := 0) (c_LL_add (len := 2) hG (lk_9 (by omega)) (16 * ((b >>> ((nI 16).toInt64 &&& 63)) &&& 255) + (nI 4).toInt64) (by first | rfl | simp [ui, ul]) (by omega)) rfl rfl v_8_97 rfl rfl (by show _ < 40; omega) rfl rfl (Nat.le_of_ble_eq_true rfl) (by omega) (by omega) ?_
  refine x_iincN (a := 2) (b := 1) rfl rfl rfl rfl rfl ?_
  refine x_goto rfl rfl ?_
  refine x_iload rfl rfl rfl ?_
  refine x_iload_n rfl rfl rfl ?_
  refine x_icmpN_ge (by omega) (by omega) rfl rfl (fun hc6 => absurd hc6 (by omega)) (fun hc6 => ?_)
  refine x_aload_n rfl rfl rfl ?_
  refine x_getR0 rfl rfl f_8_20 rfl (by decide) rfl rfl ?_
  refine x_getR0 rfl rfl f_8_79 rfl (by decide) rfl rfl ?_
  refine x_iload rfl rfl rfl ?_
  refine x_aaldi (a := n) rfl rfl rfl (by decide) (by decide) (by omega) (by decide) rfl ?_
  refine x_getRi rfl rfl f_8_92 rfl (by show _ < 40; omega) rfl rfl ?_
  refine x_iconstN (b := 4) rfl rfl ?_
  refine x_lload_n rfl rfl rfl ?_
  refine x_bipush (v := nI 8) rfl rfl (by decide +kernel) ?_
  refine x_iload rfl rfl rfl ?_
  refine x_imulN (a := 8) (b := 3) rfl rfl ?_
  refine x_lshr rfl rfl ?_
  refine x_ldc2 (v := 255) rfl rfl k_8_95 ?_
  refine x_land rfl rfl ?_
  refine x_callSl (d2 := 0) (c_valueOf hG (nI 4) ((b >>> ((nI 24).toInt64 &&& 63)) &&& 255)) rfl rfl s_8_68 rfl rfl (Nat.le_of_ble_eq_true rfl) (by omega) (by omega) ?_
  refine x_callVv (d2 := 0) (c_LL_add (len := 3) hG (lk_9 (by omega)) (16 * ((b >>> ((nI 24).toInt64 &&& 63)) &&& 255) + (nI 4).toInt64) (by first | rfl | simp [ui, ul]) (by omega)) rfl rfl v_8_97 rfl rfl (by show _ < 40; omega) rfl rfl (Nat.le_of_ble_eq_true rfl) (by omega) (by omega) ?_
  refine x_iincN (a := 3) (b := 1) rfl rfl rfl rfl rfl ?_
  refine x_goto rfl rfl ?_
  refine x_iload rfl rfl rfl ?_
  refine x_iload_n rfl rfl rfl ?_
  refine x_icmpN_ge (by omega) (by omega) rfl rfl (fun hc7 => absurd hc7 (by omega)) (fun hc7 => ?_)
  refine x_aload_n rfl rfl rfl ?_
  refine x_getR0 rfl rfl f_8_20 rfl (by decide) rfl rfl ?_
  refine x_getR0 rfl rfl f_8_79 rfl (by decide) rfl rfl ?_
  refine x_iload rfl rfl rfl ?_
  refine x_aaldi (a := n) rfl rfl rfl (by decide) (by decide) (by omega) (by decide) rfl ?_
  refine x_getRi rfl rfl f_8_92 rfl (by show _ < 40; omega) rfl rfl ?_
  refine x_iconstN (b := 4) rfl rfl ?_
  refine x_lload_n rfl rfl rfl ?_
  refine x_bipush (v := nI 8) rfl rfl (by decide +kernel) ?_
  refine x_iload rfl rfl rfl ?_
  refine x_imulN (a := 8) (b := 4) rfl rfl ?_
  refine x_lshr rfl rfl ?_
  refine x_ldc2 (v := 255) rfl rfl k_8_95 ?_
  refine x_land rfl rfl ?_
  refine x_callSl (d2 := 0) (c_valueOf hG (nI 4) ((b >>> ((nI 32).toInt64 &&& 63)) &&& 255)) rfl rfl s_8_68 rfl rfl (Nat.le_of_ble_eq_true rfl) (by omega) (by omega) ?_
  refine x_callVv (d2 := 0) (c_LL_add (len := 4) hG (lk_9 (by omega)) (16 * ((b >>> ((nI 32).toInt64 &&& 63)) &&& 255) + (nI 4).toInt64) (by first | rfl | simp [ui, ul]) (by omega)) rfl rfl v_8_97 rfl rfl (by show _ < 40; omega) rfl rfl (Nat.le_of_ble_eq_true rfl) (by omega) (by omega) ?_
  refine x_iincN (a := 4) (b := 1) rfl rfl rfl rfl rfl ?_
  refine x_goto rfl rfl ?_
  refine x_iload rfl rfl rfl ?_
  refine x_iload_n rfl rfl rfl ?_
  refine x_icmpN_ge (by omega) (by omega) rfl rfl (fun hc8 => ?_) (fun hc8 => absurd hc8 (by omega))
  refine x_bipush (v := nI 7) rfl rfl (by decide +kernel) ?_
  refine x_iload rfl rfl rfl ?_
  refine x_i2lN (a := n) (by omega) rfl rfl ?_
  refine x_callSl (d2 := 0) (c_valueOf hG (nI 7) (lN (n))) rfl rfl s_8_68 rfl rfl (Nat.le_of_ble_eq_true rfl) (by omega) (by omega) ?_
  exact x_retL rfl rfl rfl (by omega) rfl rfl
set_option maxHeartbeats 4000000 in
set_option maxRecDepth 20000 in
theorem c_bytes6 (hG : Gok G) (hd : 3 ≤ d) (b : Int64) {n : Nat} (hn : M.1 (1, 0) 5 = nI n) (hn2 : n < 40) : Ct G mX8_bytes d [.ref (ga G (0, 0)), .long (b), .int (nI 6)] M (.inl (some (.long (16 * (lN (n)) + (nI 7).toInt64)))) (ui (ul (ui (ul (ui (ul (ui (ul (ui (ul (ui (ul (ui (ui (ui (ui (ul (ui (ui M (8, n) 3 (nI 12)) (8, n) 4 ((-1))) (8, n) 5 0) (9, n) 1 (nI 0)) (11, n) 1 (nI 0)) (13, n) 1 (nI 0)) (1, 0) 5 (nI (n + 1))) (10, n) 0 (16 * ((b >>> ((nI 0).toInt64 &&& 63)) &&& 255) + (nI 4).toInt64)) (9, n) 1 (nI 1)) (10, n) 1 (16 * ((b >>> ((nI 8).toInt64 &&& 63)) &&& 255) + (nI 4).toInt64)) (9, n) 1 (nI 2)) (10, n) 2 (16 * ((b >>> ((nI 16).toInt64 &&& 63)) &&& 255) + (nI 4).toInt64)) (9, n) 1 (nI 3)) (10, n) 3 (16 * ((b >>> ((nI 24).toInt64 &&& 63)) &&& 255) + (nI 4).toInt64)) (9, n) 1 (nI 4)) (10, n) 4 (16 * ((b >>> ((nI 32).toInt64 &&& 63)) &&& 255) + (nI 4).toInt64)) (9, n) 1 (nI 5)) (10, n) 5 (16 * ((b >>> ((nI 40).toInt64 &&& 63)) &&& 255) + (nI 4).toInt64)) (9, n) 1 (nI 6)) 0 := by
  refine ct_of hG okX8_bytes (by decide +kernel) rfl (Nat.le_of_ble_eq_true rfl) ?_
  refine x_iload_n rfl rfl rfl ?_
  refine x_if_lt rfl rfl (fun hc1 => absurd hc1 (by decide +kernel)) (fun _ => ?_)
  refine x_iload_n rfl rfl rfl ?_
  refine x_bipush (v := nI 8) rfl rfl (by decide +kernel) ?_
  refine x_icmpN_le (by omega) (by omega) rfl rfl (fun hc2 => ?_) (fun hc2 => absurd hc2 (by omega))
  refine x_aload_n rfl rfl rfl ?_
  refine x_callVv (d2 := 0) (c_refuse0 (n := n) hG hn (by omega)) rfl rfl v_8_72 rfl rfl (by decide) rfl rfl (Nat.le_of_ble_eq_true rfl) (by omega) (by omega) ?_
  refine x_aload_n rfl rfl rfl ?_
  refine x_getR0 rfl rfl f_8_20 rfl (by decide) rfl rfl ?_
  refine x_bipush (v := nI 12) rfl rfl (by decide +kernel) ?_
  refine x_callVi (d2 := 2) (c_makeThing (n := n) hG (Nat.le_refl 2) (nI 12) hn (by omega)) rfl rfl v_8_75 rfl rfl (by decide) rfl rfl (Nat.le_of_ble_eq_true rfl) (by omega) (by omega) ?_
  refine x_istore rfl rfl rfl rfl ?_
  refine x_iconstN (b := 0) rfl rfl ?_
  refine x_istore rfl rfl rfl rfl ?_
  refine x_iload rfl rfl rfl ?_
  refine x_iload_n rfl rfl rfl ?_
  refine x_icmpN_ge (by omega) (by omega) rfl rfl (fun hc3 => absurd hc3 (by omega)) (fun hc3 => ?_)
  refine x_aload_n rfl rfl rfl ?_
  refine x_getR0 rfl rfl f_8_20 rfl (by decide) rfl rfl ?_
  refine x_getR0 rfl rfl f_8_79 rfl (by decide) rfl rfl ?_
  refine x_iload rfl rfl rfl ?_
  refine x_aaldi (a := n) rfl rfl rfl (by decide) (by decide) (by omega) (by decide) rfl ?_
  refine x_getRi rfl rfl f_8_92 rfl (by show _ < 40; omega) rfl rfl ?_
  refine x_iconstN (b := 4) rfl rfl ?_
  refine x_lload_n rfl rfl rfl ?_
  refine x_bipush (v := nI 8) rfl rfl (by decide +kernel) ?_
  refine x_iload rfl rfl rfl ?_
  refine x_imulN (a := 8) (b := 0) rfl rfl ?_
  refine x_lshr rfl rfl ?_
  refine x_ldc2 (v := 255) rfl rfl k_8_95 ?_
  refine x_land rfl rfl ?_
  refine x_callSl (d2 := 0) (c_valueOf hG (nI 4) ((b >>> ((nI 0).toInt64 &&& 63)) &&& 255)) rfl rfl s_8_68 rfl rfl (Nat.le_of_ble_eq_true rfl) (by omega) (by omega) ?_
  refine x_callVv (d2 := 0) (c_LL_add (len := 0) hG (lk_9 (by omega)) (16 * ((b >>> ((nI 0).toInt64 &&& 63)) &&& 255) + (nI 4).toInt64) (by first | rfl | simp [ui, ul]) (by omega)) rfl rfl v_8_97 rfl rfl (by show _ < 40; omega) rfl rfl (Nat.le_of_ble_eq_true rfl) (by omega) (by omega) ?_
  refine x_iincN (a := 0) (b := 1) rfl rfl rfl rfl rfl ?_
  refine x_goto rfl rfl ?_
  refine x_iload rfl rfl rfl ?_
  refine x_iload_n rfl rfl rfl ?_
  refine x_icmpN_ge (by omega) (by omega) rfl rfl (fun hc4 => absurd hc4 (by omega)) (fun hc4 => ?_)
  refine x_aload_n rfl rfl rfl ?_
  refine x_getR0 rfl rfl f_8_20 rfl (by decide) rfl rfl ?_
  refine x_getR0 rfl rfl f_8_79 rfl (by decide) rfl rfl ?_
  refine x_iload rfl rfl rfl ?_
  refine x_aaldi (a := n) rfl rfl rfl (by decide) (by decide) (by omega) (by decide) rfl ?_
  refine x_getRi rfl rfl f_8_92 rfl (by show _ < 40; omega) rfl rfl ?_
  refine x_iconstN (b := 4) rfl rfl ?_
  refine x_lload_n rfl rfl rfl ?_
  refine x_bipush (v := nI 8) rfl rfl (by decide +kernel) ?_
  refine x_iload rfl rfl rfl ?_
  refine x_imulN (a := 8) (b := 1) rfl rfl ?_
  refine x_lshr rfl rfl ?_
  refine x_ldc2 (v := 255) rfl rfl k_8_95 ?_
  refine x_land rfl rfl ?_
  refine x_callSl (d2 := 0) (c_valueOf hG (nI 4) ((b >>> ((nI 8).toInt64 &&& 63)) &&& 255)) rfl rfl s_8_68 rfl rfl (Nat.le_of_ble_eq_true rfl) (by omega) (by omega) ?_
  refine x_callVv (d2 := 0) (c_LL_add (len := 1) hG (lk_9 (by omega)) (16 * ((b >>> ((nI 8).toInt64 &&& 63)) &&& 255) + (nI 4).toInt64) (by first | rfl | simp [ui, ul]) (by omega)) rfl rfl v_8_97 rfl rfl (by show _ < 40; omega) rfl rfl (Nat.le_of_ble_eq_true rfl) (by omega) (by omega) ?_
  refine x_iincN (a := 1) (b := 1) rfl rfl rfl rfl rfl ?_
  refine x_goto rfl rfl ?_
  refine x_iload rfl rfl rfl ?_
  refine x_iload_n rfl rfl rfl ?_
  refine x_icmpN_ge (by omega) (by omega) rfl rfl (fun hc5 => absurd hc5 (by omega)) (fun hc5 => ?_)
  refine x_aload_n rfl rfl rfl ?_
  refine x_getR0 rfl rfl f_8_20 rfl (by decide) rfl rfl ?_
  refine x_getR0 rfl rfl f_8_79 rfl (by decide) rfl rfl ?_
  refine x_iload rfl rfl rfl ?_
  refine x_aaldi (a := n) rfl rfl rfl (by decide) (by decide) (by omega) (by decide) rfl ?_
  refine x_getRi rfl rfl f_8_92 rfl (by show _ < 40; omega) rfl rfl ?_
  refine x_iconstN (b := 4) rfl rfl ?_
  refine x_lload_n rfl rfl rfl ?_
  refine x_bipush (v := nI 8) rfl rfl (by decide +kernel) ?_
  refine x_iload rfl rfl rfl ?_
  refine x_imulN (a := 8) (b := 2) rfl rfl ?_
  refine x_lshr rfl rfl ?_
  refine x_ldc2 (v := 255) rfl rfl k_8_95 ?_
  refine x_land rfl rfl ?_
  refine x_callSl (d2 := 0) (c_valueOf hG (nI 4) ((b >>> ((nI 16).toInt64 &&& 63)) &&& 255)) rfl rfl s_8_68 rfl rfl (Nat.le_of_ble_eq_true rfl) (by omega) (by omega) ?_
  refine x_callVv (d2 := 0) (c_LL_add (len := 2) hG (lk_9 (by omega)) (16 * ((b >>> ((nI 16).toInt64 &&& 63)) &&& 255) + (nI 4).toInt64) (by first | rfl | simp [ui, ul]) (by omega)) rfl rfl v_8_97 rfl rfl (by show _ < 40; omega) rfl rfl (Nat.le_of_ble_eq_true rfl) (by omega) (by omega) ?_
  refine x_iincN (a := 2) (b := 1) rfl rfl rfl rfl rfl ?_
  refine x_goto rfl rfl ?_
  refine x_iload rfl rfl rfl ?_
  refine x_iload_n rfl rfl rfl ?_
  refine x_icmpN_ge (by omega) (by omega) rfl rfl (fun hc6 => absurd hc6 (by omega)) (fun hc6 => ?_)
  refine x_aload_n rfl rfl rfl ?_
  refine x_getR0 rfl rfl f_8_20 rfl (by decide) rfl rfl ?_
  refine x_getR0 rfl rfl f_8_79 rfl (by decide) rfl rfl ?_
  refine x_iload rfl rfl rfl ?_
  refine x_aaldi (a := n) rfl rfl rfl (by decide) (by decide) (by omega) (by decide) rfl ?_
  refine x_getRi rfl rfl f_8_92 rfl (by show _ < 40; omega) rfl rfl ?_
  refine x_iconstN (b := 4) rfl rfl ?_
  refine x_lload_n rfl rfl rfl ?_
  refine x_bipush (v := nI 8) rfl rfl (by decide +kernel) ?_
  refine x_iload rfl rfl rfl ?_
  refine x_imulN (a := 8) (b := 3) rfl rfl ?_
  refine x_lshr rfl rfl ?_
  refine x_ldc2 (v := 255) rfl rfl k_8_95 ?_
  refine x_land rfl rfl ?_
  refine x_callSl (d2 := 0) (c_valueOf hG (nI 4) ((b >>> ((nI 24).toInt64 &&& 63)) &&& 255)) rfl rfl s_8_68 rfl rfl (Nat.le_of_ble_eq_true rfl) (by omega) (by omega) ?_
  refine x_callVv (d2 := 0) (c_LL_add (len := 3) hG (lk_9 (by omega)) (16 * ((b >>> ((nI 24).toInt64 &&& 63)) &&& 255) + (nI 4).toInt64) (by first | rfl | simp [ui, ul]) (by omega)) rfl rfl v_8_97 rfl rfl (by show _ < 40; omega) rfl rfl (Nat.le_of_ble_eq_true rfl) (by omega) (by omega) ?_
  refine x_iincN (a := 3) (b := 1) rfl rfl rfl rfl rfl ?_
  refine x_goto rfl rfl ?_
  refine x_iload rfl rfl rfl ?_
  refine x_iload_n rfl rfl rfl ?_
  refine x_icmpN_ge (by omega) (by omega) rfl rfl (fun hc7 => absurd hc7 (by omega)) (fun hc7 => ?_)
  refine x_aload_n rfl rfl rfl ?_
  refine x_getR0 rfl rfl f_8_20 rfl (by decide) rfl rfl ?_
  refine x_getR0 rfl rfl f_8_79 rfl (by decide) rfl rfl ?_
  refine x_iload rfl rfl rfl ?_
  refine x_aaldi (a := n) rfl rfl rfl (by decide) (by decide) (by omega) (by decide) rfl ?_
  refine x_getRi rfl rfl f_8_92 rfl (by show _ < 40; omega) rfl rfl ?_
  refine x_iconstN (b := 4) rfl rfl ?_
  refine x_lload_n rfl rfl rfl ?_
  refine x_bipush (v := nI 8) rfl rfl (by decide +kernel) ?_
  refine x_iload rfl rfl rfl ?_
  refine x_imulN (a := 8) (b := 4) rfl rfl ?_
  refine x_lshr rfl rfl ?_
  refine x_ldc2 (v := 255) rfl rfl k_8_95 ?_
  refine x_land rfl rfl ?_
  refine x_callSl (d2 := 0) (c_valueOf hG (nI 4) ((b >>> ((nI 32).toInt64 &&& 63)) &&& 255)) rfl rfl s_8_68 rfl rfl (Nat.le_of_ble_eq_true rfl) (by omega) (by omega) ?_
  refine x_callVv (d2 := 0) (c_LL_add (len := 4) hG (lk_9 (by omega)) (16 * ((b >>> ((nI 32).toInt64 &&& 63)) &&& 255) + (nI 4).toInt64) (by first | rfl | simp [ui, ul]) (by omega)) rfl rfl v_8_97 rfl rfl (by show _ < 40; omega) rfl rfl (Nat.le_of_ble_eq_true rfl) (by omega) (by omega) ?_
  refine x_iincN (a := 4) (b := 1) rfl rfl rfl rfl rfl ?_
  refine x_goto rfl rfl ?_
  refine x_iload rfl rfl rfl ?_
  refine x_iload_n rfl rfl rfl ?_
  refine x_icmpN_ge (by omega) (by omega) rfl rfl (fun hc8 => absurd hc8 (by omega)) (fun hc8 => ?_)
  refine x_aload_n rfl rfl rfl ?_
  refine x_getR0 rfl rfl f_8_20 rfl (by decide) rfl rfl ?_
  refine x_getR0 rfl rfl f_8_79 rfl (by decide) rfl rfl ?_
  refine x_iload rfl rfl rfl ?_
  refine x_aaldi (a := n) rfl rfl rfl (by decide) (by decide) (by omega) (by decide) rfl ?_
  refine x_getRi rfl rfl f_8_92 rfl (by show _ < 40; omega) rfl rfl ?_
  refine x_iconstN (b := 4) rfl rfl ?_
  refine x_lload_n rfl rfl rfl ?_
  refine x_bipush (v := nI 8) rfl rfl (by decide +kernel) ?_
  refine x_iload rfl rfl rfl ?_
  refine x_imulN (a := 8) (b := 5) rfl rfl ?_
  refine x_lshr rfl rfl ?_
  refine x_ldc2 (v := 255) rfl rfl k_8_95 ?_
  refine x_land rfl rfl ?_
  refine x_callSl (d2 := 0) (c_valueOf hG (nI 4) ((b >>> ((nI 40).toInt64 &&& 63)) &&& 255)) rfl rfl s_8_68 rfl rfl (Nat.le_of_ble_eq_true rfl) (by omega) (by omega) ?_
  refine x_callVv (d2 := 0) (c_LL_add (len := 5) hG (lk_9 (by omega)) (16 * ((b >>> ((nI 40).toInt64 &&& 63)) &&& 255) + (nI 4).toInt64) (by first | rfl | simp [ui, ul]) (by omega)) rfl rfl v_8_97 rfl rfl (by show _ < 40; omega) rfl rfl (Nat.le_of_ble_eq_true rfl) (by omega) (by omega) ?_
  refine x_iincN (a := 5) (b := 1) rfl rfl rfl rfl rfl ?_
  refine x_goto rfl rfl ?_
  refine x_iload rfl rfl rfl ?_
  refine x_iload_n rfl rfl rfl ?_
  refine x_icmpN_ge (by omega) (by omega) rfl rfl (fun hc9 => ?_) (fun hc9 => absurd hc9 (by omega))
  refine x_bipush (v := nI 7) rfl rfl (by decide +kernel) ?_
  refine x_iload rfl rfl rfl ?_
  refine x_i2lN (a := n) (by omega) rfl rfl ?_
  refine x_callSl (d2 := 0) (c_valueOf hG (nI 7) (lN (n))) rfl rfl s_8_68 rfl rfl (Nat.le_of_ble_eq_true rfl) (by omega) (by omega) ?_
  exact x_retL rfl rfl rfl (by omega) rfl rfl
set_option maxHeartbeats 4000000 in
set_option maxRecDepth 20000 in
theorem c_bytes7 (hG : Gok G) (hd : 3 ≤ d) (b : Int64) {n : Nat} (hn : M.1 (1, 0) 5 = nI n) (hn2 : n < 40) : Ct G mX8_bytes d [.ref (ga G (0, 0)), .long (b), .int (nI 7)] M (.inl (some (.long (16 * (lN (n)) + (nI 7).toInt64)))) (ui (ul (ui (ul (ui (ul (ui (ul (ui (ul (ui (ul (ui (ul (ui (ui (ui (ui (ul (ui (ui M (8, n) 3 (nI 12)) (8, n) 4 ((-1))) (8, n) 5 0) (9, n) 1 (nI 0)) (11, n) 1 (nI 0)) (13, n) 1 (nI 0)) (1, 0) 5 (nI (n + 1))) (10, n) 0 (16 * ((b >>> ((nI 0).toInt64 &&& 63)) &&& 255) + (nI 4).toInt64)) (9, n) 1 (nI 1)) (10, n) 1 (16 * ((b >>> ((nI 8).toInt64 &&& 63)) &&& 255) + (nI 4).toInt64)) (9, n) 1 (nI 2)) (10, n) 2 (16 * ((b >>> ((nI 16).toInt64 &&& 63)) &&& 255) + (nI 4).toInt64)) (9, n) 1 (nI 3)) (10, n) 3 (16 * ((b >>> ((nI 24).toInt64 &&& 63)) &&& 255) + (nI 4).toInt64)) (9, n) 1 (nI 4)) (10, n) 4 (16 * ((b >>> ((nI 32).toInt64 &&& 63)) &&& 255) + (nI 4).toInt64)) (9, n) 1 (nI 5)) (10, n) 5 (16 * ((b >>> ((nI 40).toInt64 &&& 63)) &&& 255) + (nI 4).toInt64)) (9, n) 1 (nI 6)) (10, n) 6 (16 * ((b >>> ((nI 48).toInt64 &&& 63)) &&& 255) + (nI 4).toInt64)) (9, n) 1 (nI 7)) 0 := by
  refine ct_of hG okX8_bytes (by decide +kernel) rfl (Nat.le_of_ble_eq_true rfl) ?_
  refine x_iload_n rfl rfl rfl ?_
  refine x_if_lt rfl rfl (fun hc1 => absurd hc1 (by decide +kernel)) (fun _ => ?_)
  refine x_iload_n rfl rfl rfl ?_
  refine x_bipush (v := nI 8) rfl rfl (by decide +kernel) ?_
  refine x_icmpN_le (by omega) (by omega) rfl rfl (fun hc2 => ?_) (fun hc2 => absurd hc2 (by omega))
  refine x_aload_n rfl rfl rfl ?_
  refine x_callVv (d2 := 0) (c_refuse0 (n := n) hG hn (by omega)) rfl rfl v_8_72 rfl rfl (by decide) rfl rfl (Nat.le_of_ble_eq_true rfl) (by omega) (by omega) ?_
  refine x_aload_n rfl rfl rfl ?_
  refine x_getR0 rfl rfl f_8_20 rfl (by decide) rfl rfl ?_
  refine x_bipush (v := nI 12) rfl rfl (by decide +kernel) ?_
  refine x_callVi (d2 := 2) (c_makeThing (n := n) hG (Nat.le_refl 2) (nI 12) hn (by omega)) rfl rfl v_8_75 rfl rfl (by decide) rfl rfl (Nat.le_of_ble_eq_true rfl) (by omega) (by omega) ?_
  refine x_istore rfl rfl rfl rfl ?_
  refine x_iconstN (b := 0) rfl rfl ?_
  refine x_istore rfl rfl rfl rfl ?_
  refine x_iload rfl rfl rfl ?_
  refine x_iload_n rfl rfl rfl ?_
  refine x_icmpN_ge (by omega) (by omega) rfl rfl (fun hc3 => absurd hc3 (by omega)) (fun hc3 => ?_)
  refine x_aload_n rfl rfl rfl ?_
  refine x_getR0 rfl rfl f_8_20 rfl (by decide) rfl rfl ?_
  refine x_getR0 rfl rfl f_8_79 rfl (by decide) rfl rfl ?_
  refine x_iload rfl rfl rfl ?_
  refine x_aaldi (a := n) rfl rfl rfl (by decide) (by decide) (by omega) (by decide) rfl ?_
  refine x_getRi rfl rfl f_8_92 rfl (by show _ < 40; omega) rfl rfl ?_
  refine x_iconstN (b := 4) rfl rfl ?_
  refine x_lload_n rfl rfl rfl ?_
  refine x_bipush (v := nI 8) rfl rfl (by decide +kernel) ?_
  refine x_iload rfl rfl rfl ?_
  refine x_imulN (a := 8) (b := 0) rfl rfl ?_
  refine x_lshr rfl rfl ?_
  refine x_ldc2 (v := 255) rfl rfl k_8_95 ?_
  refine x_land rfl rfl ?_
  refine x_callSl (d2 := 0) (c_valueOf hG (nI 4) ((b >>> ((nI 0).toInt64 &&& 63)) &&& 255)) rfl rfl s_8_68 rfl rfl (Nat.le_of_ble_eq_true rfl) (by omega) (by omega) ?_
  refine x_callVv (d2 := 0) (c_LL_add (len := 0) hG (lk_9 (by omega)) (16 * ((b >>> ((nI 0).toInt64 &&& 63)) &&& 255) + (nI 4).toInt64) (by first | rfl | simp [ui, ul]) (by omega)) rfl rfl v_8_97 rfl rfl (by show _ < 40; omega) rfl rfl (Nat.le_of_ble_eq_true rfl) (by omega) (by omega) ?_
  refine x_iincN (a := 0) (b := 1) rfl rfl rfl rfl rfl ?_
  refine x_goto rfl rfl ?_
  refine x_iload rfl rfl rfl ?_
  refine x_iload_n rfl rfl rfl ?_
  refine x_icmpN_ge (by omega) (by omega) rfl rfl (fun hc4 => absurd hc4 (by omega)) (fun hc4 => ?_)
  refine x_aload_n rfl rfl rfl ?_
  refine x_getR0 rfl rfl f_8_20 rfl (by decide) rfl rfl ?_
  refine x_getR0 rfl rfl f_8_79 rfl (by decide) rfl rfl ?_
  refine x_iload rfl rfl rfl ?_
  refine x_aaldi (a := n) rfl rfl rfl (by decide) (by decide) (by omega) (by decide) rfl ?_
  refine x_getRi rfl rfl f_8_92 rfl (by show _ < 40; omega) rfl rfl ?_
  refine x_iconstN (b := 4) rfl rfl ?_
  refine x_lload_n rfl rfl rfl ?_
  refine x_bipush (v := nI 8) rfl rfl (by decide +kernel) ?_
  refine x_iload rfl rfl rfl ?_
  refine x_imulN (a := 8) (b := 1) rfl rfl ?_
  refine x_lshr rfl rfl ?_
  refine x_ldc2 (v := 255) rfl rfl k_8_95 ?_
  refine x_land rfl rfl ?_
  refine x_callSl (d2 := 0) (c_valueOf hG (nI 4) ((b >>> ((nI 8).toInt64 &&& 63)) &&& 255)) rfl rfl s_8_68 rfl rfl (Nat.le_of_ble_eq_true rfl) (by omega) (by omega) ?_
  refine x_callVv (d2 := 0) (c_LL_add (len := 1) hG (lk_9 (by omega)) (16 * ((b >>> ((nI 8).toInt64 &&& 63)) &&& 255) + (nI 4).toInt64) (by first | rfl | simp [ui, ul]) (by omega)) rfl rfl v_8_97 rfl rfl (by show _ < 40; omega) rfl rfl (Nat.le_of_ble_eq_true rfl) (by omega) (by omega) ?_
  refine x_iincN (a := 1) (b := 1) rfl rfl rfl rfl rfl ?_
  refine x_goto rfl rfl ?_
  refine x_iload rfl rfl rfl ?_
  refine x_iload_n rfl rfl rfl ?_
  refine x_icmpN_ge (by omega) (by omega) rfl rfl (fun hc5 => absurd hc5 (by omega)) (fun hc5 => ?_)
  refine x_aload_n rfl rfl rfl ?_
  refine x_getR0 rfl rfl f_8_20 rfl (by decide) rfl rfl ?_
  refine x_getR0 rfl rfl f_8_79 rfl (by decide) rfl rfl ?_
  refine x_iload rfl rfl rfl ?_
  refine x_aaldi (a := n) rfl rfl rfl (by decide) (by decide) (by omega) (by decide) rfl ?_
  refine x_getRi rfl rfl f_8_92 rfl (by show _ < 40; omega) rfl rfl ?_
  refine x_iconstN (b := 4) rfl rfl ?_
  refine x_lload_n rfl rfl rfl ?_
  refine x_bipush (v := nI 8) rfl rfl (by decide +kernel) ?_
  refine x_iload rfl rfl rfl ?_
  refine x_imulN (a := 8) (b := 2) rfl rfl ?_
  refine x_lshr rfl rfl ?_
  refine x_ldc2 (v := 255) rfl rfl k_8_95 ?_
  refine x_land rfl rfl ?_
  refine x_callSl (d2 := 0) (c_valueOf hG (nI 4) ((b >>> ((nI 16).toInt64 &&& 63)) &&& 255)) rfl rfl s_8_68 rfl rfl (Nat.le_of_ble_eq_true rfl) (by omega) (by omega) ?_
  refine x_callVv (d2 := 0) (c_LL_add (len := 2) hG (lk_9 (by omega)) (16 * ((b >>> ((nI 16).toInt64 &&& 63)) &&& 255) + (nI 4).toInt64) (by first | rfl | simp [ui, ul]) (by omega)) rfl rfl v_8_97 rfl rfl (by show _ < 40; omega) rfl rfl (Nat.le_of_ble_eq_true rfl) (by omega) (by omega) ?_
  refine x_iincN (a := 2) (b := 1) rfl rfl rfl rfl rfl ?_
  refine x_goto rfl rfl ?_
  refine x_iload rfl rfl rfl ?_
  refine x_iload_n rfl rfl rfl ?_
  refine x_icmpN_ge (by omega) (by omega) rfl rfl (fun hc6 => absurd hc6 (by omega)) (fun hc6 => ?_)
  refine x_aload_n rfl rfl rfl ?_
  refine x_getR0 rfl rfl f_8_20 rfl (by decide) rfl rfl ?_
  refine x_getR0 rfl rfl f_8_79 rfl (by decide) rfl rfl ?_
  refine x_iload rfl rfl rfl ?_
  refine x_aaldi (a := n) rfl rfl rfl (by decide) (by decide) (by omega) (by decide) rfl ?_
  refine x_getRi rfl rfl f_8_92 rfl (by show _ < 40; omega) rfl rfl ?_
  refine x_iconstN (b := 4) rfl rfl ?_
  refine x_lload_n rfl rfl rfl ?_
  refine x_bipush (v := nI 8) rfl rfl (by decide +kernel) ?_
  refine x_iload rfl rfl rfl ?_
  refine x_imulN (a := 8) (b := 3) rfl rfl ?_
  refine x_lshr rfl rfl ?_
  refine x_ldc2 (v := 255) rfl rfl k_8_95 ?_
  refine x_land rfl rfl ?_
  refine x_callSl (d2 := 0) (c_valueOf hG (nI 4) ((b >>> ((nI 24).toInt64 &&& 63)) &&& 255)) rfl rfl s_8_68 rfl rfl (Nat.le_of_ble_eq_true rfl) (by omega) (by omega) ?_
  refine x_callVv (d2 := 0) (c_LL_add (len := 3) hG (lk_9 (by omega)) (16 * ((b >>> ((nI 24).toInt64 &&& 63)) &&& 255) + (nI 4).toInt64) (by first | rfl | simp [ui, ul]) (by omega)) rfl rfl v_8_97 rfl rfl (by show _ < 40; omega) rfl rfl (Nat.le_of_ble_eq_true rfl) (by omega) (by omega) ?_
  refine x_iincN (a := 3) (b := 1) rfl rfl rfl rfl rfl ?_
  refine x_goto rfl rfl ?_
  refine x_iload rfl rfl rfl ?_
  refine x_iload_n rfl rfl rfl ?_
  refine x_icmpN_ge (by omega) (by omega) rfl rfl (fun hc7 => absurd hc7 (by omega)) (fun hc7 => ?_)
  refine x_aload_n rfl rfl rfl ?_
  refine x_getR0 rfl rfl f_8_20 rfl (by decide) rfl rfl ?_
  refine x_getR0 rfl rfl f_8_79 rfl (by decide) rfl rfl ?_
  refine x_iload rfl rfl rfl ?_
  refine x_aaldi (a := n) rfl rfl rfl (by decide) (by decide) (by omega) (by decide) rfl ?_
  refine x_getRi rfl rfl f_8_92 rfl (by show _ < 40; omega) rfl rfl ?_
  refine x_iconstN (b := 4) rfl rfl ?_
  refine x_lload_n rfl rfl rfl ?_
  refine x_bipush (v := nI 8) rfl rfl (by decide +kernel) ?_
  refine x_iload rfl rfl rfl ?_
  refine x_imulN (a := 8) (b := 4) rfl rfl ?_
  refine x_lshr rfl rfl ?_
  refine x_ldc2 (v := 255) rfl rfl k_8_95 ?_
  refine x_land rfl rfl ?_
  refine x_callSl (d2 := 0) (c_valueOf hG (nI 4) ((b >>> ((nI 32).toInt64 &&& 63)) &&& 255)) rfl rfl s_8_68 rfl rfl (Nat.le_of_ble_eq_true rfl) (by omega) (by omega) ?_
  refine x_callVv (d2 := 0) (c_LL_add (len := 4) hG (lk_9 (by omega)) (16 * ((b >>> ((nI 32).toInt64 &&& 63)) &&& 255) + (nI 4).toInt64) (by first | rfl | simp [ui, ul]) (by omega)) rfl rfl v_8_97 rfl rfl (by show _ < 40; omega) rfl rfl (Nat.le_of_ble_eq_true rfl) (by omega) (by omega) ?_
  refine x_iincN (a := 4) (b := 1) rfl rfl rfl rfl rfl ?_
  refine x_goto rfl rfl ?_
  refine x_iload rfl rfl rfl ?_
  refine x_iload_n rfl rfl rfl ?_
  refine x_icmpN_ge (by omega) (by omega) rfl rfl (fun hc8 => absurd hc8 (by omega)) (fun hc8 => ?_)
  refine x_aload_n rfl rfl rfl ?_
  refine x_getR0 rfl rfl f_8_20 rfl (by decide) rfl rfl ?_
  refine x_getR0 rfl rfl f_8_79 rfl (by decide) rfl rfl ?_
  refine x_iload rfl rfl rfl ?_
  refine x_aaldi (a := n) rfl rfl rfl (by decide) (by decide) (by omega) (by decide) rfl ?_
  refine x_getRi rfl rfl f_8_92 rfl (by show _ < 40; omega) rfl rfl ?_
  refine x_iconstN (b := 4) rfl rfl ?_
  refine x_lload_n rfl rfl rfl ?_
  refine x_bipush (v := nI 8) rfl rfl (by decide +kernel) ?_
  refine x_iload rfl rfl rfl ?_
  refine x_imulN (a := 8) (b := 5) rfl rfl ?_
  refine x_lshr rfl rfl ?_
  refine x_ldc2 (v := 255) rfl rfl k_8_95 ?_
  refine x_land rfl rfl ?_
  refine x_callSl (d2 := 0) (c_valueOf hG (nI 4) ((b >>> ((nI 40).toInt64 &&& 63)) &&& 255)) rfl rfl s_8_68 rfl rfl (Nat.le_of_ble_eq_true rfl) (by omega) (by omega) ?_
  refine x_callVv (d2 := 0) (c_LL_add (len := 5) hG (lk_9 (by omega)) (16 * ((b >>> ((nI 40).toInt64 &&& 63)) &&& 255) + (nI 4).toInt64) (by first | rfl | simp [ui, ul]) (by omega)) rfl rfl v_8_97 rfl rfl (by show _ < 40; omega) rfl rfl (Nat.le_of_ble_eq_true rfl) (by omega) (by omega) ?_
  refine x_iincN (a := 5) (b := 1) rfl rfl rfl rfl rfl ?_
  refine x_goto rfl rfl ?_
  refine x_iload rfl rfl rfl ?_
  refine x_iload_n rfl rfl rfl ?_
  refine x_icmpN_ge (by omega) (by omega) rfl rfl (fun hc9 => absurd hc9 (by omega)) (fun hc9 => ?_)
  refine x_aload_n rfl rfl rfl ?_
  refine x_getR0 rfl rfl f_8_20 rfl (by decide) rfl rfl ?_
  refine x_getR0 rfl rfl f_8_79 rfl (by decide) rfl rfl ?_
  refine x_iload rfl rfl rfl ?_
  refine x_aaldi (a := n) rfl rfl rfl (by decide) (by decide) (by omega) (by decide) rfl ?_
  refine x_getRi rfl rfl f_8_92 rfl (by show _ < 40; omega) rfl rfl ?_
  refine x_iconstN (b := 4) rfl rfl ?_
  refine x_lload_n rfl rfl rfl ?_
  refine x_bipush (v := nI 8) rfl rfl (by decide +kernel) ?_
  refine x_iload rfl rfl rfl ?_
  refine x_imulN (a := 8) (b := 6) rfl rfl ?_
  refine x_lshr rfl rfl ?_
  refine x_ldc2 (v := 255) rfl rfl k_8_95 ?_
  refine x_land rfl rfl ?_
  refine x_callSl (d2 := 0) (c_valueOf hG (nI 4) ((b >>> ((nI 48).toInt64 &&& 63)) &&& 255)) rfl rfl s_8_68 rfl rfl (Nat.le_of_ble_eq_true rfl) (by omega) (by omega) ?_
  refine x_callVv (d2 := 0) (c_LL_add (len := 6) hG (lk_9 (by omega)) (16 * ((b >>> ((nI 48).toInt64 &&& 63)) &&& 255) + (nI 4).toInt64) (by first | rfl | simp [ui, ul]) (by omega)) rfl rfl v_8_97 rfl rfl (by show _ < 40; omega) rfl rfl (Nat.le_of_ble_eq_true rfl) (by omega) (by omega) ?_
  refine x_iincN (a := 6) (b := 1) rfl rfl rfl rfl rfl ?_
  refine x_goto rfl rfl ?_
  refine x_iload rfl rfl rfl ?_
  refine x_iload_n rfl rfl rfl ?_
  refine x_icmpN_ge (by omega) (by omega) rfl rfl (fun hc10 => ?_) (fun hc10 => absurd hc10 (by omega))
  refine x_bipush (v := nI 7) rfl rfl (by decide +kernel) ?_
  refine x_iload rfl rfl rfl ?_
  refine x_i2lN (a := n) (by omega) rfl rfl ?_
  refine x_callSl (d2 := 0) (c_valueOf hG (nI 7) (lN (n))) rfl rfl s_8_68 rfl rfl (Nat.le_of_ble_eq_true rfl) (by omega) (by omega) ?_
  exact x_retL rfl rfl rfl (by omega) rfl rfl
set_option maxHeartbeats 4000000 in
set_option maxRecDepth 20000 in
theorem c_bytes8 (hG : Gok G) (hd : 3 ≤ d) (b : Int64) {n : Nat} (hn : M.1 (1, 0) 5 = nI n) (hn2 : n < 40) : Ct G mX8_bytes d [.ref (ga G (0, 0)), .long (b), .int (nI 8)] M (.inl (some (.long (16 * (lN (n)) + (nI 7).toInt64)))) (ui (ul (ui (ul (ui (ul (ui (ul (ui (ul (ui (ul (ui (ul (ui (ul (ui (ui (ui (ui (ul (ui (ui M (8, n) 3 (nI 12)) (8, n) 4 ((-1))) (8, n) 5 0) (9, n) 1 (nI 0)) (11, n) 1 (nI 0)) (13, n) 1 (nI 0)) (1, 0) 5 (nI (n + 1))) (10, n) 0 (16 * ((b >>> ((nI 0).toInt64 &&& 63)) &&& 255) + (nI 4).toInt64)) (9, n) 1 (nI 1)) (10, n) 1 (16 * ((b >>> ((nI 8).toInt64 &&& 63)) &&& 255) + (nI 4).toInt64)) (9, n) 1 (nI 2)) (10, n) 2 (16 * ((b >>> ((nI 16).toInt64 &&& 63)) &&& 255) + (nI 4).toInt64)) (9, n) 1 (nI 3)) (10, n) 3 (16 * ((b >>> ((nI 24).toInt64 &&& 63)) &&& 255) + (nI 4).toInt64)) (9, n) 1 (nI 4)) (10, n) 4 (16 * ((b >>> ((nI 32).toInt64 &&& 63)) &&& 255) + (nI 4).toInt64)) (9, n) 1 (nI 5)) (10, n) 5 (16 * ((b >>> ((nI 40).toInt64 &&& 63)) &&& 255) + (nI 4).toInt64)) (9, n) 1 (nI 6)) (10, n) 6 (16 * ((b >>> ((nI 48).toInt64 &&& 63)) &&& 255) + (nI 4).toInt64)) (9, n) 1 (nI 7)) (10, n) 7 (16 * ((b >>> ((nI 56).toInt64 &&& 63)) &&& 255) + (nI 4).toInt64)) (9, n) 1 (nI 8)) 0 := by
  refine ct_of hG okX8_bytes (by decide +kernel) rfl (Nat.le_of_ble_eq_true rfl) ?_
  refine x_iload_n rfl rfl rfl ?_
  refine x_if_lt rfl rfl (fun hc1 => absurd hc1 (by decide +kernel)) (fun _ => ?_)
  refine x_iload_n rfl rfl rfl ?_
  refine x_bipush (v := nI 8) rfl rfl (by decide +kernel) ?_
  refine x_icmpN_le (by omega) (by omega) rfl rfl (fun hc2 => ?_) (fun hc2 => absurd hc2 (by omega))
  refine x_aload_n rfl rfl rfl ?_
  refine x_callVv (d2 := 0) (c_refuse0 (n := n) hG hn (by omega)) rfl rfl v_8_72 rfl rfl (by decide) rfl rfl (Nat.le_of_ble_eq_true rfl) (by omega) (by omega) ?_
  refine x_aload_n rfl rfl rfl ?_
  refine x_getR0 rfl rfl f_8_20 rfl (by decide) rfl rfl ?_
  refine x_bipush (v := nI 12) rfl rfl (by decide +kernel) ?_
  refine x_callVi (d2 := 2) (c_makeThing (n := n) hG (Nat.le_refl 2) (nI 12) hn (by omega)) rfl rfl v_8_75 rfl rfl (by decide) rfl rfl (Nat.le_of_ble_eq_true rfl) (by omega) (by omega) ?_
  refine x_istore rfl rfl rfl rfl ?_
  refine x_iconstN (b := 0) rfl rfl ?_
  refine x_istore rfl rfl rfl rfl ?_
  refine x_iload rfl rfl rfl ?_
  refine x_iload_n rfl rfl rfl ?_
  refine x_icmpN_ge (by omega) (by omega) rfl rfl (fun hc3 => absurd hc3 (by omega)) (fun hc3 => ?_)
  refine x_aload_n rfl rfl rfl ?_
  refine x_getR0 rfl rfl f_8_20 rfl (by decide) rfl rfl ?_
  refine x_getR0 rfl rfl f_8_79 rfl (by decide) rfl rfl ?_
  refine x_iload rfl rfl rfl ?_
  refine x_aaldi (a := n) rfl rfl rfl (by decide) (by decide) (by omega) (by decide) rfl ?_
  refine x_getRi rfl rfl f_8_92 rfl (by show _ < 40; omega) rfl rfl ?_
  refine x_iconstN (b := 4) rfl rfl ?_
  refine x_lload_n rfl rfl rfl ?_
  refine x_bipush (v := nI 8) rfl rfl (by decide +kernel) ?_
  refine x_iload rfl rfl rfl ?_
  refine x_imulN (a := 8) (b := 0) rfl rfl ?_
  refine x_lshr rfl rfl ?_
  refine x_ldc2 (v := 255) rfl rfl k_8_95 ?_
  refine x_land rfl rfl ?_
  refine x_callSl (d2 := 0) (c_valueOf hG (nI 4) ((b >>> ((nI 0).toInt64 &&& 63)) &&& 255)) rfl rfl s_8_68 rfl rfl (Nat.le_of_ble_eq_true rfl) (by omega) (by omega) ?_
  refine x_callVv (d2 := 0) (c_LL_add (len := 0) hG (lk_9 (by omega)) (16 * ((b >>> ((nI 0).toInt64 &&& 63)) &&& 255) + (nI 4).toInt64) (by first | rfl | simp [ui, ul]) (by omega)) rfl rfl v_8_97 rfl rfl (by show _ < 40; omega) rfl rfl (Nat.le_of_ble_eq_true rfl) (by omega) (by omega) ?_
  refine x_iincN (a := 0) (b := 1) rfl rfl rfl rfl rfl ?_
  refine x_goto rfl rfl ?_
  refine x_iload rfl rfl rfl ?_
  refine x_iload_n rfl rfl rfl ?_
  refine x_icmpN_ge (by omega) (by omega) rfl rfl (fun hc4 => absurd hc4 (by omega)) (fun hc4 => ?_)
  refine x_aload_n rfl rfl rfl ?_
  refine x_getR0 rfl rfl f_8_20 rfl (by decide) rfl rfl ?_
  refine x_getR0 rfl rfl f_8_79 rfl (by decide) rfl rfl ?_
  refine x_iload rfl rfl rfl ?_
  refine x_aaldi (a := n) rfl rfl rfl (by decide) (by decide) (by omega) (by decide) rfl ?_
  refine x_getRi rfl rfl f_8_92 rfl (by show _ < 40; omega) rfl rfl ?_
  refine x_iconstN (b := 4) rfl rfl ?_
  refine x_lload_n rfl rfl rfl ?_
  refine x_bipush (v := nI 8) rfl rfl (by decide +kernel) ?_
  refine x_iload rfl rfl rfl ?_
  refine x_imulN (a := 8) (b := 1) rfl rfl ?_
  refine x_lshr rfl rfl ?_
  refine x_ldc2 (v := 255) rfl rfl k_8_95 ?_
  refine x_land rfl rfl ?_
  refine x_callSl (d2 := 0) (c_valueOf hG (nI 4) ((b >>> ((nI 8).toInt64 &&& 63)) &&& 255)) rfl rfl s_8_68 rfl rfl (Nat.le_of_ble_eq_true rfl) (by omega) (by omega) ?_
  refine x_callVv (d2 := 0) (c_LL_add (len := 1) hG (lk_9 (by omega)) (16 * ((b >>> ((nI 8).toInt64 &&& 63)) &&& 255) + (nI 4).toInt64) (by first | rfl | simp [ui, ul]) (by omega)) rfl rfl v_8_97 rfl rfl (by show _ < 40; omega) rfl rfl (Nat.le_of_ble_eq_true rfl) (by omega) (by omega) ?_
  refine x_iincN (a := 1) (b := 1) rfl rfl rfl rfl rfl ?_
  refine x_goto rfl rfl ?_
  refine x_iload rfl rfl rfl ?_
  refine x_iload_n rfl rfl rfl ?_
  refine x_icmpN_ge (by omega) (by omega) rfl rfl (fun hc5 => absurd hc5 (by omega)) (fun hc5 => ?_)
  refine x_aload_n rfl rfl rfl ?_
  refine x_getR0 rfl rfl f_8_20 rfl (by decide) rfl rfl ?_
  refine x_getR0 rfl rfl f_8_79 rfl (by decide) rfl rfl ?_
  refine x_iload rfl rfl rfl ?_
  refine x_aaldi (a := n) rfl rfl rfl (by decide) (by decide) (by omega) (by decide) rfl ?_
  refine x_getRi rfl rfl f_8_92 rfl (by show _ < 40; omega) rfl rfl ?_
  refine x_iconstN (b := 4) rfl rfl ?_
  refine x_lload_n rfl rfl rfl ?_
  refine x_bipush (v := nI 8) rfl rfl (by decide +kernel) ?_
  refine x_iload rfl rfl rfl ?_
  refine x_imulN (a := 8) (b := 2) rfl rfl ?_
  refine x_lshr rfl rfl ?_
  refine x_ldc2 (v := 255) rfl rfl k_8_95 ?_
  refine x_land rfl rfl ?_
  refine x_callSl (d2 := 0) (c_valueOf hG (nI 4) ((b >>> ((nI 16).toInt64 &&& 63)) &&& 255)) rfl rfl s_8_68 rfl rfl (Nat.le_of_ble_eq_true rfl) (by omega) (by omega) ?_
  refine x_callVv (d2 := 0) (c_LL_add (len := 2) hG (lk_9 (by omega)) (16 * ((b >>> ((nI 16).toInt64 &&& 63)) &&& 255) + (nI 4).toInt64) (by first | rfl | simp [ui, ul]) (by omega)) rfl rfl v_8_97 rfl rfl (by show _ < 40; omega) rfl rfl (Nat.le_of_ble_eq_true rfl) (by omega) (by omega) ?_
  refine x_iincN (a := 2) (b := 1) rfl rfl rfl rfl rfl ?_
  refine x_goto rfl rfl ?_
  refine x_iload rfl rfl rfl ?_
  refine x_iload_n rfl rfl rfl ?_
  refine x_icmpN_ge (by omega) (by omega) rfl rfl (fun hc6 => absurd hc6 (by omega)) (fun hc6 => ?_)
  refine x_aload_n rfl rfl rfl ?_
  refine x_getR0 rfl rfl f_8_20 rfl (by decide) rfl rfl ?_
  refine x_getR0 rfl rfl f_8_79 rfl (by decide) rfl rfl ?_
  refine x_iload rfl rfl rfl ?_
  refine x_aaldi (a := n) rfl rfl rfl (by decide) (by decide) (by omega) (by decide) rfl ?_
  refine x_getRi rfl rfl f_8_92 rfl (by show _ < 40; omega) rfl rfl ?_
  refine x_iconstN (b := 4) rfl rfl ?_
  refine x_lload_n rfl rfl rfl ?_
  refine x_bipush (v := nI 8) rfl rfl (by decide +kernel) ?_
  refine x_iload rfl rfl rfl ?_
  refine x_imulN (a := 8) (b := 3) rfl rfl ?_
  refine x_lshr rfl rfl ?_
  refine x_ldc2 (v := 255) rfl rfl k_8_95 ?_
  refine x_land rfl rfl ?_
  refine x_callSl (d2 := 0) (c_valueOf hG (nI 4) ((b >>> ((nI 24).toInt64 &&& 63)) &&& 255)) rfl rfl s_8_68 rfl rfl (Nat.le_of_ble_eq_true rfl) (by omega) (by omega) ?_
  refine x_callVv (d2 := 0) (c_LL_add (len := 3) hG (lk_9 (by omega)) (16 * ((b >>> ((nI 24).toInt64 &&& 63)) &&& 255) + (nI 4).toInt64) (by first | rfl | simp [ui, ul]) (by omega)) rfl rfl v_8_97 rfl rfl (by show _ < 40; omega) rfl rfl (Nat.le_of_ble_eq_true rfl) (by omega) (by omega) ?_
  refine x_iincN (a := 3) (b := 1) rfl rfl rfl rfl rfl ?_
  refine x_goto rfl rfl ?_
  refine x_iload rfl rfl rfl ?_
  refine x_iload_n rfl rfl rfl ?_
  refine x_icmpN_ge (by omega) (by omega) rfl rfl (fun hc7 => absurd hc7 (by omega)) (fun hc7 => ?_)
  refine x_aload_n rfl rfl rfl ?_
  refine x_getR0 rfl rfl f_8_20 rfl (by decide) rfl rfl ?_
  refine x_getR0 rfl rfl f_8_79 rfl (by decide) rfl rfl ?_
  refine x_iload rfl rfl rfl ?_
  refine x_aaldi (a := n) rfl rfl rfl (by decide) (by decide) (by omega) (by decide) rfl ?_
  refine x_getRi rfl rfl f_8_92 rfl (by show _ < 40; omega) rfl rfl ?_
  refine x_iconstN (b := 4) rfl rfl ?_
  refine x_lload_n rfl rfl rfl ?_
  refine x_bipush (v := nI 8) rfl rfl (by decide +kernel) ?_
  refine x_iload rfl rfl rfl ?_
  refine x_imulN (a := 8) (b := 4) rfl rfl ?_
  refine x_lshr rfl rfl ?_
  refine x_ldc2 (v := 255) rfl rfl k_8_95 ?_
  refine x_land rfl rfl ?_
  refine x_callSl (d2 := 0) (c_valueOf hG (nI 4) ((b >>> ((nI 32).toInt64 &&& 63)) &&& 255)) rfl rfl s_8_68 rfl rfl (Nat.le_of_ble_eq_true rfl) (by omega) (by omega) ?_
  refine x_callVv (d2 := 0) (c_LL_add (len := 4) hG (lk_9 (by omega)) (16 * ((b >>> ((nI 32).toInt64 &&& 63)) &&& 255) + (nI 4).toInt64) (by first | rfl | simp [ui, ul]) (by omega)) rfl rfl v_8_97 rfl rfl (by show _ < 40; omega) rfl rfl (Nat.le_of_ble_eq_true rfl) (by omega) (by omega) ?_
  refine x_iincN (a := 4) (b := 1) rfl rfl rfl rfl rfl ?_
  refine x_goto rfl rfl ?_
  refine x_iload rfl rfl rfl ?_
  refine x_iload_n rfl rfl rfl ?_
  refine x_icmpN_ge (by omega) (by omega) rfl rfl (fun hc8 => absurd hc8 (by omega)) (fun hc8 => ?_)
  refine x_aload_n rfl rfl rfl ?_
  refine x_getR0 rfl rfl f_8_20 rfl (by decide) rfl rfl ?_
  refine x_getR0 rfl rfl f_8_79 rfl (by decide) rfl rfl ?_
  refine x_iload rfl rfl rfl ?_
  refine x_aaldi (a := n) rfl rfl rfl (by decide) (by decide) (by omega) (by decide) rfl ?_
  refine x_getRi rfl rfl f_8_92 rfl (by show _ < 40; omega) rfl rfl ?_
  refine x_iconstN (b := 4) rfl rfl ?_
  refine x_lload_n rfl rfl rfl ?_
  refine x_bipush (v := nI 8) rfl rfl (by decide +kernel) ?_
  refine x_iload rfl rfl rfl ?_
  refine x_imulN (a := 8) (b := 5) rfl rfl ?_
  refine x_lshr rfl rfl ?_
  refine x_ldc2 (v := 255) rfl rfl k_8_95 ?_
  refine x_land rfl rfl ?_
  refine x_callSl (d2 := 0) (c_valueOf hG (nI 4) ((b >>> ((nI 40).toInt64 &&& 63)) &&& 255)) rfl rfl s_8_68 rfl rfl (Nat.le_of_ble_eq_true rfl) (by omega) (by omega) ?_
  refine x_callVv (d2 := 0) (c_LL_add (len := 5) hG (lk_9 (by omega)) (16 * ((b >>> ((nI 40).toInt64 &&& 63)) &&& 255) + (nI 4).toInt64) (by first | rfl | simp [ui, ul]) (by omega)) rfl rfl v_8_97 rfl rfl (by show _ < 40; omega) rfl rfl (Nat.le_of_ble_eq_true rfl) (by omega) (by omega) ?_
  refine x_iincN (a := 5) (b := 1) rfl rfl rfl rfl rfl ?_
  refine x_goto rfl rfl ?_
  refine x_iload rfl rfl rfl ?_
  refine x_iload_n rfl rfl rfl ?_
  refine x_icmpN_ge (by omega) (by omega) rfl rfl (fun hc9 => absurd hc9 (by omega)) (fun hc9 => ?_)
  refine x_aload_n rfl rfl rfl ?_
  refine x_getR0 rfl rfl f_8_20 rfl (by decide) rfl rfl ?_
  refine x_getR0 rfl rfl f_8_79 rfl (by decide) rfl rfl ?_
  refine x_iload rfl rfl rfl ?_
  refine x_aaldi (a := n) rfl rfl rfl (by decide) (by decide) (by omega) (by decide) rfl ?_
  refine x_getRi rfl rfl f_8_92 rfl (by show _ < 40; omega) rfl rfl ?_
  refine x_iconstN (b := 4) rfl rfl ?_
  refine x_lload_n rfl rfl rfl ?_
  refine x_bipush (v := nI 8) rfl rfl (by decide +kernel) ?_
  refine x_iload rfl rfl rfl ?_
  refine x_imulN (a := 8) (b := 6) rfl rfl ?_
  refine x_lshr rfl rfl ?_
  refine x_ldc2 (v := 255) rfl rfl k_8_95 ?_
  refine x_land rfl rfl ?_
  refine x_callSl (d2 := 0) (c_valueOf hG (nI 4) ((b >>> ((nI 48).toInt64 &&& 63)) &&& 255)) rfl rfl s_8_68 rfl rfl (Nat.le_of_ble_eq_true rfl) (by omega) (by omega) ?_
  refine x_callVv (d2 := 0) (c_LL_add (len := 6) hG (lk_9 (by omega)) (16 * ((b >>> ((nI 48).toInt64 &&& 63)) &&& 255) + (nI 4).toInt64) (by first | rfl | simp [ui, ul]) (by omega)) rfl rfl v_8_97 rfl rfl (by show _ < 40; omega) rfl rfl (Nat.le_of_ble_eq_true rfl) (by omega) (by omega) ?_
  refine x_iincN (a := 6) (b := 1) rfl rfl rfl rfl rfl ?_
  refine x_goto rfl rfl ?_
  refine x_iload rfl rfl rfl ?_
  refine x_iload_n rfl rfl rfl ?_
  refine x_icmpN_ge (by omega) (by omega) rfl rfl (fun hc10 => absurd hc10 (by omega)) (fun hc10 => ?_)
  refine x_aload_n rfl rfl rfl ?_
  refine x_getR0 rfl rfl f_8_20 rfl (by decide) rfl rfl ?_
  refine x_getR0 rfl rfl f_8_79 rfl (by decide) rfl rfl ?_
  refine x_iload rfl rfl rfl ?_
  refine x_aaldi (a := n) rfl rfl rfl (by decide) (by decide) (by omega) (by decide) rfl ?_
  refine x_getRi rfl rfl f_8_92 rfl (by show _ < 40; omega) rfl rfl ?_
  refine x_iconstN (b := 4) rfl rfl ?_
  refine x_lload_n rfl rfl rfl ?_
  refine x_bipush (v := nI 8) rfl rfl (by decide +kernel) ?_
  refine x_iload rfl rfl rfl ?_
  refine x_imulN (a := 8) (b := 7) rfl rfl ?_
  refine x_lshr rfl rfl ?_
  refine x_ldc2 (v := 255) rfl rfl k_8_95 ?_
  refine x_land rfl rfl ?_
  refine x_callSl (d2 := 0) (c_valueOf hG (nI 4) ((b >>> ((nI 56).toInt64 &&& 63)) &&& 255)) rfl rfl s_8_68 rfl rfl (Nat.le_of_ble_eq_true rfl) (by omega) (by omega) ?_
  refine x_callVv (d2 := 0) (c_LL_add (len := 7) hG (lk_9 (by omega)) (16 * ((b >>> ((nI 56).toInt64 &&& 63)) &&& 255) + (nI 4).toInt64) (by first | rfl | simp [ui, ul]) (by omega)) rfl rfl v_8_97 rfl rfl (by show _ < 40; omega) rfl rfl (Nat.le_of_ble_eq_true rfl) (by omega) (by omega) ?_
  refine x_iincN (a := 7) (b := 1) rfl rfl rfl rfl rfl ?_
  refine x_goto rfl rfl ?_
  refine x_iload rfl rfl rfl ?_
  refine x_iload_n rfl rfl rfl ?_
  refine x_icmpN_ge (by omega) (by omega) rfl rfl (fun hc11 => ?_) (fun hc11 => absurd hc11 (by omega))
  refine x_bipush (v := nI 7) rfl rfl (by decide +kernel) ?_
  refine x_iload rfl rfl rfl ?_
  refine x_i2lN (a := n) (by omega) rfl rfl ?_
  refine x_callSl (d2 := 0) (c_valueOf hG (nI 7) (lN (n))) rfl rfl s_8_68 rfl rfl (Nat.le_of_ble_eq_true rfl) (by omega) (by omega) ?_
  exact x_retL rfl rfl rfl (by omega) rfl rfl
set_option maxHeartbeats 4000000 in
set_option maxRecDepth 20000 in
theorem c_bytesX (hG : Gok G) (hd : 7 ≤ d) (b : Int64) {m : Nat} (hm : m ≤ 8) (hn : M.1 (1, 0) 5 = nI 40) : Ct G mX8_bytes d [.ref (ga G (0, 0)), .long (b), .int (nI m)] M (.inr "java/lang/IllegalStateException") M 1 := by
  refine ct_of hG okX8_bytes (by decide +kernel) rfl (Nat.le_of_ble_eq_true rfl) ?_
  refine x_iload_n rfl rfl rfl ?_
  refine x_ifN_lt (by omega) rfl rfl (fun hc1 => hc1.elim) (fun hc1 => ?_)
  refine x_iload_n rfl rfl rfl ?_
  refine x_bipush (v := nI 8) rfl rfl (by decide +kernel) ?_
  refine x_icmpN_le (by omega) (by omega) rfl rfl (fun hc2 => ?_) (fun hc2 => absurd hc2 (by omega))
  refine x_aload_n rfl rfl rfl ?_
  exact x_throwV (d2 := 6) (c_refuse1 hG (Nat.le_refl 6) hn) rfl rfl v_8_72 rfl rfl (by decide) rfl rfl (Nat.le_of_ble_eq_true rfl) (by omega) (by omega)
set_option maxHeartbeats 4000000 in
set_option maxRecDepth 20000 in
theorem c_bytesN (hG : Gok G) (hd : 6 ≤ d) (b : Int64) {m : Int32} (hm : m < 0) : Ct G mX8_bytes d [.ref (ga G (0, 0)), .long (b), .int (m)] M (.inr "java/lang/IllegalArgumentException") M 1 := by
  refine ct_of hG okX8_bytes (by decide +kernel) rfl (Nat.le_of_ble_eq_true rfl) ?_
  refine x_iload_n rfl rfl rfl ?_
  refine x_if_lt rfl rfl (fun hc1 => ?_) (fun hc1 => absurd hm hc1)
  exact x_throw rfl rfl rfl rfl rfl rfl rfl rfl th_8_89_91 (Nat.le_of_ble_eq_true rfl) (by omega) (by omega)
set_option maxHeartbeats 4000000 in
set_option maxRecDepth 20000 in
theorem c_bytesO (hG : Gok G) (hd : 6 ≤ d) (b : Int64) {m : Nat} (hm : 8 < m) (hm2 : m < 2 ^ 31) : Ct G mX8_bytes d [.ref (ga G (0, 0)), .long (b), .int (nI m)] M (.inr "java/lang/IllegalArgumentException") M 1 := by
  refine ct_of hG okX8_bytes (by decide +kernel) rfl (Nat.le_of_ble_eq_true rfl) ?_
  refine x_iload_n rfl rfl rfl ?_
  refine x_ifN_lt (by omega) rfl rfl (fun hc1 => hc1.elim) (fun hc1 => ?_)
  refine x_iload_n rfl rfl rfl ?_
  refine x_bipush (v := nI 8) rfl rfl (by decide +kernel) ?_
  refine x_icmpN_le (by omega) (by omega) rfl rfl (fun hc2 => absurd hc2 (by omega)) (fun hc2 => ?_)
  exact x_throw rfl rfl rfl rfl rfl rfl rfl rfl th_8_89_91 (Nat.le_of_ble_eq_true rfl) (by omega) (by omega)
set_option maxHeartbeats 4000000 in
set_option maxRecDepth 20000 in
theorem c_object0 (hG : Gok G) (hd : 3 ≤ d) {n : Nat} (hn : M.1 (1, 0) 5 = nI n) (hn2 : n < 40) {tn : Nat} (htn : M.1 (1, 0) 4 = nI tn) (htn2 : tn ≤ 12) {t : Nat} (ht : t < tn) (hm : M.1 (6, t) 1 = nI 0) : Ct G mX8_object d [.ref (ga G (0, 0)), .int (nI t)] M (.inl (some (.long (16 * (lN (n)) + (nI 7).toInt64)))) (ui (ui (ui (ui (ui (ul (ui (ui M (8, n) 3 (nI 10)) (8, n) 4 ((-1))) (8, n) 5 0) (9, n) 1 (nI 0)) (11, n) 1 (nI 0)) (13, n) 1 (nI 0)) (1, 0) 5 (nI (n + 1))) (8, n) 4 (nI t)) 0 := by
  refine ct_of hG okX8_object (by decide +kernel) rfl (Nat.le_of_ble_eq_true rfl) ?_
  refine x_iload_n rfl rfl rfl ?_
  refine x_ifN_lt (by omega) rfl rfl (fun hc1 => hc1.elim) (fun hc1 => ?_)
  refine x_iload_n rfl rfl rfl ?_
  refine x_aload_n rfl rfl rfl ?_
  refine x_getR0 rfl rfl f_8_20 rfl (by decide) rfl rfl ?_
  refine x_getIv (v := nI tn) htn rfl rfl f_8_113 rfl (by decide) rfl ?_
  refine x_icmpN_lt (by omega) (by omega) rfl rfl (fun hc2 => ?_) (fun hc2 => absurd hc2 (by omega))
  refine x_aload_n rfl rfl rfl ?_
  refine x_callVv (d2 := 0) (c_refuse0 (n := n) hG hn (by omega)) rfl rfl v_8_72 rfl rfl (by decide) rfl rfl (Nat.le_of_ble_eq_true rfl) (by omega) (by omega) ?_
  refine x_aload_n rfl rfl rfl ?_
  refine x_getR0 rfl rfl f_8_20 rfl (by decide) rfl rfl ?_
  refine x_bipush (v := nI 10) rfl rfl (by decide +kernel) ?_
  refine x_callVi (d2 := 2) (c_makeThing (n := n) hG (Nat.le_refl 2) (nI 10) hn (by omega)) rfl rfl v_8_75 rfl rfl (by decide) rfl rfl (Nat.le_of_ble_eq_true rfl) (by omega) (by omega) ?_
  refine x_istore_n rfl rfl rfl rfl ?_
  refine x_aload_n rfl rfl rfl ?_
  refine x_getR0 rfl rfl f_8_20 rfl (by decide) rfl rfl ?_
  refine x_aload_n rfl rfl rfl ?_
  refine x_getR0 rfl rfl f_8_20 rfl (by decide) rfl rfl ?_
  refine x_getR0 rfl rfl f_8_79 rfl (by decide) rfl rfl ?_
  refine x_iload_n rfl rfl rfl ?_
  refine x_aaldi (a := n) rfl rfl rfl (by decide) (by decide) (by omega) (by decide) rfl ?_
  refine x_iload_n rfl rfl rfl ?_
  refine x_callVv (d2 := 1) (c_giveTraits0 hG (Nat.le_refl 1) (by omega) (by omega) (by first | rfl | simp [ui, ul]) (by first | exact hm | (rw [← hm]; rfl) | simp [ui, ul, hm])) rfl rfl v_8_129 rfl rfl (by decide) rfl rfl (Nat.le_of_ble_eq_true rfl) (by omega) (by omega) ?_
  refine x_bipush (v := nI 7) rfl rfl (by decide +kernel) ?_
  refine x_iload_n rfl rfl rfl ?_
  refine x_i2lN (a := n) (by omega) rfl rfl ?_
  refine x_callSl (d2 := 0) (c_valueOf hG (nI 7) (lN (n))) rfl rfl s_8_68 rfl rfl (Nat.le_of_ble_eq_true rfl) (by omega) (by omega) ?_
  exact x_retL rfl rfl rfl (by omega) rfl rfl
set_option maxHeartbeats 4000000 in
set_option maxRecDepth 20000 in
theorem c_object1 (hG : Gok G) (hd : 3 ≤ d) {n : Nat} (hn : M.1 (1, 0) 5 = nI n) (hn2 : n < 40) {tn : Nat} (htn : M.1 (1, 0) 4 = nI tn) (htn2 : tn ≤ 12) {t : Nat} (ht : t < tn) (hm : M.1 (6, t) 1 = nI 1) : Ct G mX8_object d [.ref (ga G (0, 0)), .int (nI t)] M (.inl (some (.long (16 * (lN (n)) + (nI 7).toInt64)))) (ui (ul (ui (ui (ui (ui (ui (ul (ui (ui M (8, n) 3 (nI 10)) (8, n) 4 ((-1))) (8, n) 5 0) (9, n) 1 (nI 0)) (11, n) 1 (nI 0)) (13, n) 1 (nI 0)) (1, 0) 5 (nI (n + 1))) (8, n) 4 (nI t)) (10, n) 0 0) (9, n) 1 (nI 1)) 0 := by
  refine ct_of hG okX8_object (by decide +kernel) rfl (Nat.le_of_ble_eq_true rfl) ?_
  refine x_iload_n rfl rfl rfl ?_
  refine x_ifN_lt (by omega) rfl rfl (fun hc1 => hc1.elim) (fun hc1 => ?_)
  refine x_iload_n rfl rfl rfl ?_
  refine x_aload_n rfl rfl rfl ?_
  refine x_getR0 rfl rfl f_8_20 rfl (by decide) rfl rfl ?_
  refine x_getIv (v := nI tn) htn rfl rfl f_8_113 rfl (by decide) rfl ?_
  refine x_icmpN_lt (by omega) (by omega) rfl rfl (fun hc2 => ?_) (fun hc2 => absurd hc2 (by omega))
  refine x_aload_n rfl rfl rfl ?_
  refine x_callVv (d2 := 0) (c_refuse0 (n := n) hG hn (by omega)) rfl rfl v_8_72 rfl rfl (by decide) rfl rfl (Nat.le_of_ble_eq_true rfl) (by omega) (by omega) ?_
  refine x_aload_n rfl rfl rfl ?_
  refine x_getR0 rfl rfl f_8_20 rfl (by decide) rfl rfl ?_
  refine x_bipush (v := nI 10) rfl rfl (by decide +kernel) ?_
  refine x_callVi (d2 := 2) (c_makeThing (n := n) hG (Nat.le_refl 2) (nI 10) hn (by omega)) rfl rfl v_8_75 rfl rfl (by decide) rfl rfl (Nat.le_of_ble_eq_true rfl) (by omega) (by omega) ?_
  refine x_istore_n rfl rfl rfl rfl ?_
  refine x_aload_n rfl rfl rfl ?_
  refine x_getR0 rfl rfl f_8_20 rfl (by decide) rfl rfl ?_
  refine x_aload_n rfl rfl rfl ?_
  refine x_getR0 rfl rfl f_8_20 rfl (by decide) rfl rfl ?_
  refine x_getR0 rfl rfl f_8_79 rfl (by decide) rfl rfl ?_
  refine x_iload_n rfl rfl rfl ?_
  refine x_aaldi (a := n) rfl rfl rfl (by decide) (by decide) (by omega) (by decide) rfl ?_
  refine x_iload_n rfl rfl rfl ?_
  refine x_callVv (d2 := 1) (c_giveTraits1 hG (Nat.le_refl 1) (by omega) (by omega) (by first | rfl | simp [ui, ul]) (by first | exact hm | (rw [← hm]; rfl) | simp [ui, ul, hm])) rfl rfl v_8_129 rfl rfl (by decide) rfl rfl (Nat.le_of_ble_eq_true rfl) (by omega) (by omega) ?_
  refine x_bipush (v := nI 7) rfl rfl (by decide +kernel) ?_
  refine x_iload_n rfl rfl rfl ?_
  refine x_i2lN (a := n) (by omega) rfl rfl ?_
  refine x_callSl (d2 := 0) (c_valueOf hG (nI 7) (lN (n))) rfl rfl s_8_68 rfl rfl (Nat.le_of_ble_eq_true rfl) (by omega) (by omega) ?_
  exact x_retL rfl rfl rfl (by omega) rfl rfl
set_option maxHeartbeats 4000000 in
set_option maxRecDepth 20000 in
theorem c_object2 (hG : Gok G) (hd : 3 ≤ d) {n : Nat} (hn : M.1 (1, 0) 5 = nI n) (hn2 : n < 40) {tn : Nat} (htn : M.1 (1, 0) 4 = nI tn) (htn2 : tn ≤ 12) {t : Nat} (ht : t < tn) (hm : M.1 (6, t) 1 = nI 2) : Ct G mX8_object d [.ref (ga G (0, 0)), .int (nI t)] M (.inl (some (.long (16 * (lN (n)) + (nI 7).toInt64)))) (ui (ul (ui (ul (ui (ui (ui (ui (ui (ul (ui (ui M (8, n) 3 (nI 10)) (8, n) 4 ((-1))) (8, n) 5 0) (9, n) 1 (nI 0)) (11, n) 1 (nI 0)) (13, n) 1 (nI 0)) (1, 0) 5 (nI (n + 1))) (8, n) 4 (nI t)) (10, n) 0 0) (9, n) 1 (nI 1)) (10, n) 1 0) (9, n) 1 (nI 2)) 0 := by
  refine ct_of hG okX8_object (by decide +kernel) rfl (Nat.le_of_ble_eq_true rfl) ?_
  refine x_iload_n rfl rfl rfl ?_
  refine x_ifN_lt (by omega) rfl rfl (fun hc1 => hc1.elim) (fun hc1 => ?_)
  refine x_iload_n rfl rfl rfl ?_
  refine x_aload_n rfl rfl rfl ?_
  refine x_getR0 rfl rfl f_8_20 rfl (by decide) rfl rfl ?_
  refine x_getIv (v := nI tn) htn rfl rfl f_8_113 rfl (by decide) rfl ?_
  refine x_icmpN_lt (by omega) (by omega) rfl rfl (fun hc2 => ?_) (fun hc2 => absurd hc2 (by omega))
  refine x_aload_n rfl rfl rfl ?_
  refine x_callVv (d2 := 0) (c_refuse0 (n := n) hG hn (by omega)) rfl rfl v_8_72 rfl rfl (by decide) rfl rfl (Nat.le_of_ble_eq_true rfl) (by omega) (by omega) ?_
  refine x_aload_n rfl rfl rfl ?_
  refine x_getR0 rfl rfl f_8_20 rfl (by decide) rfl rfl ?_
  refine x_bipush (v := nI 10) rfl rfl (by decide +kernel) ?_
  refine x_callVi (d2 := 2) (c_makeThing (n := n) hG (Nat.le_refl 2) (nI 10) hn (by omega)) rfl rfl v_8_75 rfl rfl (by decide) rfl rfl (Nat.le_of_ble_eq_true rfl) (by omega) (by omega) ?_
  refine x_istore_n rfl rfl rfl rfl ?_
  refine x_aload_n rfl rfl rfl ?_
  refine x_getR0 rfl rfl f_8_20 rfl (by decide) rfl rfl ?_
  refine x_aload_n rfl rfl rfl ?_
  refine x_getR0 rfl rfl f_8_20 rfl (by decide) rfl rfl ?_
  refine x_getR0 rfl rfl f_8_79 rfl (by decide) rfl rfl ?_
  refine x_iload_n rfl rfl rfl ?_
  refine x_aaldi (a := n) rfl rfl rfl (by decide) (by decide) (by omega) (by decide) rfl ?_
  refine x_iload_n rfl rfl rfl ?_
  refine x_callVv (d2 := 1) (c_giveTraits2 hG (Nat.le_refl 1) (by omega) (by omega) (by first | rfl | simp [ui, ul]) (by first | exact hm | (rw [← hm]; rfl) | simp [ui, ul, hm])) rfl rfl v_8_129 rfl rfl (by decide) rfl rfl (Nat.le_of_ble_eq_true rfl) (by omega) (by omega) ?_
  refine x_bipush (v := nI 7) rfl rfl (by decide +kernel) ?_
  refine x_iload_n rfl rfl rfl ?_
  refine x_i2lN (a := n) (by omega) rfl rfl ?_
  refine x_callSl (d2 := 0) (c_valueOf hG (nI 7) (lN (n))) rfl rfl s_8_68 rfl rfl (Nat.le_of_ble_eq_true rfl) (by omega) (by omega) ?_
  exact x_retL rfl rfl rfl (by omega) rfl rfl
set_option maxHeartbeats 4000000 in
set_option maxRecDepth 20000 in
theorem c_object3 (hG : Gok G) (hd : 3 ≤ d) {n : Nat} (hn : M.1 (1, 0) 5 = nI n) (hn2 : n < 40) {tn : Nat} (htn : M.1 (1, 0) 4 = nI tn) (htn2 : tn ≤ 12) {t : Nat} (ht : t < tn) (hm : M.1 (6, t) 1 = nI 3) : Ct G mX8_object d [.ref (ga G (0, 0)), .int (nI t)] M (.inl (some (.long (16 * (lN (n)) + (nI 7).toInt64)))) (ui (ul (ui (ul (ui (ul (ui (ui (ui (ui (ui (ul (ui (ui M (8, n) 3 (nI 10)) (8, n) 4 ((-1))) (8, n) 5 0) (9, n) 1 (nI 0)) (11, n) 1 (nI 0)) (13, n) 1 (nI 0)) (1, 0) 5 (nI (n + 1))) (8, n) 4 (nI t)) (10, n) 0 0) (9, n) 1 (nI 1)) (10, n) 1 0) (9, n) 1 (nI 2)) (10, n) 2 0) (9, n) 1 (nI 3)) 0 := by
  refine ct_of hG okX8_object (by decide +kernel) rfl (Nat.le_of_ble_eq_true rfl) ?_
  refine x_iload_n rfl rfl rfl ?_
  refine x_ifN_lt (by omega) rfl rfl (fun hc1 => hc1.elim) (fun hc1 => ?_)
  refine x_iload_n rfl rfl rfl ?_
  refine x_aload_n rfl rfl rfl ?_
  refine x_getR0 rfl rfl f_8_20 rfl (by decide) rfl rfl ?_
  refine x_getIv (v := nI tn) htn rfl rfl f_8_113 rfl (by decide) rfl ?_
  refine x_icmpN_lt (by omega) (by omega) rfl rfl (fun hc2 => ?_) (fun hc2 => absurd hc2 (by omega))
  refine x_aload_n rfl rfl rfl ?_
  refine x_callVv (d2 := 0) (c_refuse0 (n := n) hG hn (by omega)) rfl rfl v_8_72 rfl rfl (by decide) rfl rfl (Nat.le_of_ble_eq_true rfl) (by omega) (by omega) ?_
  refine x_aload_n rfl rfl rfl ?_
  refine x_getR0 rfl rfl f_8_20 rfl (by decide) rfl rfl ?_
  refine x_bipush (v := nI 10) rfl rfl (by decide +kernel) ?_
  refine x_callVi (d2 := 2) (c_makeThing (n := n) hG (Nat.le_refl 2) (nI 10) hn (by omega)) rfl rfl v_8_75 rfl rfl (by decide) rfl rfl (Nat.le_of_ble_eq_true rfl) (by omega) (by omega) ?_
  refine x_istore_n rfl rfl rfl rfl ?_
  refine x_aload_n rfl rfl rfl ?_
  refine x_getR0 rfl rfl f_8_20 rfl (by decide) rfl rfl ?_
  refine x_aload_n rfl rfl rfl ?_
  refine x_getR0 rfl rfl f_8_20 rfl (by decide) rfl rfl ?_
  refine x_getR0 rfl rfl f_8_79 rfl (by decide) rfl rfl ?_
  refine x_iload_n rfl rfl rfl ?_
  refine x_aaldi (a := n) rfl rfl rfl (by decide) (by decide) (by omega) (by decide) rfl ?_
  refine x_iload_n rfl rfl rfl ?_
  refine x_callVv (d2 := 1) (c_giveTraits3 hG (Nat.le_refl 1) (by omega) (by omega) (by first | rfl | simp [ui, ul]) (by first | exact hm | (rw [← hm]; rfl) | simp [ui, ul, hm])) rfl rfl v_8_129 rfl rfl (by decide) rfl rfl (Nat.le_of_ble_eq_true rfl) (by omega) (by omega) ?_
  refine x_bipush (v := nI 7) rfl rfl (by decide +kernel) ?_
  refine x_iload_n rfl rfl rfl ?_
  refine x_i2lN (a := n) (by omega) rfl rfl ?_
  refine x_callSl (d2 := 0) (c_valueOf hG (nI 7) (lN (n))) rfl rfl s_8_68 rfl rfl (Nat.le_of_ble_eq_true rfl) (by omega) (by omega) ?_
  exact x_retL rfl rfl rfl (by omega) rfl rfl
set_option maxHeartbeats 4000000 in
set_option maxRecDepth 20000 in
theorem c_objectX (hG : Gok G) (hd : 7 ≤ d) (hn : M.1 (1, 0) 5 = nI 40) {tn : Nat} (htn : M.1 (1, 0) 4 = nI tn) (htn2 : tn ≤ 12) {t : Nat} (ht : t < tn) : Ct G mX8_object d [.ref (ga G (0, 0)), .int (nI t)] M (.inr "java/lang/IllegalStateException") M 1 := by
  refine ct_of hG okX8_object (by decide +kernel) rfl (Nat.le_of_ble_eq_true rfl) ?_
  refine x_iload_n rfl rfl rfl ?_
  refine x_ifN_lt (by omega) rfl rfl (fun hc1 => hc1.elim) (fun hc1 => ?_)
  refine x_iload_n rfl rfl rfl ?_
  refine x_aload_n rfl rfl rfl ?_
  refine x_getR0 rfl rfl f_8_20 rfl (by decide) rfl rfl ?_
  refine x_getIv (v := nI tn) htn rfl rfl f_8_113 rfl (by decide) rfl ?_
  refine x_icmpN_lt (by omega) (by omega) rfl rfl (fun hc2 => ?_) (fun hc2 => absurd hc2 (by omega))
  refine x_aload_n rfl rfl rfl ?_
  exact x_throwV (d2 := 6) (c_refuse1 hG (Nat.le_refl 6) hn) rfl rfl v_8_72 rfl rfl (by decide) rfl rfl (Nat.le_of_ble_eq_true rfl) (by omega) (by omega)
set_option maxHeartbeats 4000000 in
set_option maxRecDepth 20000 in
theorem c_objectN (hG : Gok G) (hd : 6 ≤ d) {t : Int32} (ht : t < 0) : Ct G mX8_object d [.ref (ga G (0, 0)), .int (t)] M (.inr "java/lang/IllegalArgumentException") M 1 := by
  refine ct_of hG okX8_object (by decide +kernel) rfl (Nat.le_of_ble_eq_true rfl) ?_
  refine x_iload_n rfl rfl rfl ?_
  refine x_if_lt rfl rfl (fun hc1 => ?_) (fun hc1 => absurd ht hc1)
  exact x_throw rfl rfl rfl rfl rfl rfl rfl rfl th_8_89_91 (Nat.le_of_ble_eq_true rfl) (by omega) (by omega)
set_option maxHeartbeats 4000000 in
set_option maxRecDepth 20000 in
theorem c_objectO (hG : Gok G) (hd : 6 ≤ d) {tn : Nat} (htn : M.1 (1, 0) 4 = nI tn) (htn2 : tn ≤ 12) {t : Nat} (ht : tn ≤ t) (ht2 : t < 2 ^ 31) : Ct G mX8_object d [.ref (ga G (0, 0)), .int (nI t)] M (.inr "java/lang/IllegalArgumentException") M 1 := by
  refine ct_of hG okX8_object (by decide +kernel) rfl (Nat.le_of_ble_eq_true rfl) ?_
  refine x_iload_n rfl rfl rfl ?_
  refine x_ifN_lt (by omega) rfl rfl (fun hc1 => hc1.elim) (fun hc1 => ?_)
  refine x_iload_n rfl rfl rfl ?_
  refine x_aload_n rfl rfl rfl ?_
  refine x_getR0 rfl rfl f_8_20 rfl (by decide) rfl rfl ?_
  refine x_getIv (v := nI tn) htn rfl rfl f_8_113 rfl (by decide) rfl ?_
  refine x_icmpN_lt (by omega) (by omega) rfl rfl (fun hc2 => absurd hc2 (by omega)) (fun hc2 => ?_)
  exact x_throw rfl rfl rfl rfl rfl rfl rfl rfl th_8_89_91 (Nat.le_of_ble_eq_true rfl) (by omega) (by omega)
set_option maxHeartbeats 4000000 in
set_option maxRecDepth 20000 in
theorem c_allow (hG : Gok G) (hd : 2 ≤ d) (nm : Int64) {an : Nat} (han : M.1 (17, 0) 1 = nI an) (han2 : an ≤ 6) (h1 : isTx nm) (h2 : nm ≠ 0) (h3 : fx (M.2 (18, 0)) nm 0 an = none) (h4 : an < 6) : Ct G mX8_allow d [.ref (ga G (0, 0)), .long (nm)] M (.inl (some (.int (nI 1)))) (ui (ul M (18, 0) an nm) (17, 0) 1 (nI (an + 1))) 0 := by
  refine ct_of hG okX8_allow (by decide +kernel) rfl (Nat.le_of_ble_eq_true rfl) ?_
  refine x_lload_n rfl rfl rfl ?_
  refine x_callSi (d2 := 0) (c_isText hG (nm)) rfl rfl s_8_101 rfl rfl (Nat.le_of_ble_eq_true rfl) (by omega) (by omega) ?_
  refine x_ifB_eq rfl rfl (fun hc1 => absurd h1 hc1) (fun hc1 => ?_)
  refine x_lload_n rfl rfl rfl ?_
  refine x_lconst (v := 0) rfl rfl (by decide +kernel) ?_
  refine x_lc_eq rfl rfl rfl rfl (fun hc2 => absurd hc2 h2) (fun hc2 => ?_)
  refine x_aload_n rfl rfl rfl ?_
  refine x_getR0 rfl rfl f_8_28 rfl (by decide) rfl rfl ?_
  refine x_lload_n rfl rfl rfl ?_
  refine x_callVi (d2 := 1) (c_LL_has (len := an) hG (lk_17 (by decide)) (nm) han (by omega) (by decide) (Nat.le_refl 1)) rfl rfl v_8_168 rfl rfl (by decide) rfl rfl (Nat.le_of_ble_eq_true rfl) (by omega) (by omega) ?_
  refine x_ifB_ne rfl rfl (fun hc3 => absurd h3 hc3) (fun hc3 => ?_)
  refine x_aload_n rfl rfl rfl ?_
  refine x_getR0 rfl rfl f_8_28 rfl (by decide) rfl rfl ?_
  refine x_callVi (d2 := 0) (c_LL_isFull (len := an) hG (lk_17 (by decide)) han (by omega)) rfl rfl v_8_139 rfl rfl (by decide) rfl rfl (Nat.le_of_ble_eq_true rfl) (by omega) (by omega) ?_
  refine x_ifB_eq rfl rfl (fun hc4 => ?_) (fun hc4 => absurd hc4 (by omega))
  refine x_aload_n rfl rfl rfl ?_
  refine x_getR0 rfl rfl f_8_28 rfl (by decide) rfl rfl ?_
  refine x_lload_n rfl rfl rfl ?_
  refine x_callVv (d2 := 0) (c_LL_add (len := an) hG (lk_17 (by decide)) (nm) han (by omega)) rfl rfl v_8_97 rfl rfl (by decide) rfl rfl (Nat.le_of_ble_eq_true rfl) (by omega) (by omega) ?_
  refine x_iconstN (b := 1) rfl rfl ?_
  exact x_retZ rfl rfl rfl (by first | exact Or.inl rfl | exact Or.inr rfl) (by omega) rfl rfl
set_option maxHeartbeats 4000000 in
set_option maxRecDepth 20000 in
theorem c_allowX (hG : Gok G) (hd : 2 ≤ d) (nm : Int64) {an : Nat} (han : M.1 (17, 0) 1 = nI an) (han2 : an ≤ 6) (h : ¬ (isTx nm ∧ nm ≠ 0 ∧ fx (M.2 (18, 0)) nm 0 an = none ∧ an < 6)) : Ct G mX8_allow d [.ref (ga G (0, 0)), .long (nm)] M (.inl (some (.int (nI 0)))) M 0 := by
  refine ct_of hG okX8_allow (by decide +kernel) rfl (Nat.le_of_ble_eq_true rfl) ?_
  refine x_lload_n rfl rfl rfl ?_
  refine x_callSi (d2 := 0) (c_isText hG (nm)) rfl rfl s_8_101 rfl rfl (Nat.le_of_ble_eq_true rfl) (by omega) (by omega) ?_
  refine x_ifB_eq rfl rfl (fun hc1 => ?_) (fun hc1 => ?_)
  · refine x_iconstN (b := 0) rfl rfl ?_
    exact x_retZ rfl rfl rfl (Or.inl rfl) (by omega) rfl rfl
  · refine x_lload_n rfl rfl rfl ?_
    refine x_lconst (v := 0) rfl rfl (by decide +kernel) ?_
    refine x_lc_eq rfl rfl rfl rfl (fun hc2 => ?_) (fun hc2 => ?_)
    · refine x_iconstN (b := 0) rfl rfl ?_
      exact x_retZ rfl rfl rfl (Or.inl rfl) (by omega) rfl rfl
    · refine x_aload_n rfl rfl rfl ?_
      refine x_getR0 rfl rfl f_8_28 rfl (by decide) rfl rfl ?_
      refine x_lload_n rfl rfl rfl ?_
      refine x_callVi (d2 := 1) (c_LL_has (len := an) hG (lk_17 (by decide)) (nm) han (by omega) (by decide) (Nat.le_refl 1)) rfl rfl v_8_168 rfl rfl (by decide) rfl rfl (Nat.le_of_ble_eq_true rfl) (by omega) (by omega) ?_
      refine x_ifB_ne rfl rfl (fun hc3 => ?_) (fun hc3 => ?_)
      · refine x_iconstN (b := 0) rfl rfl ?_
        exact x_retZ rfl rfl rfl (Or.inl rfl) (by omega) rfl rfl
      · refine x_aload_n rfl rfl rfl ?_
        refine x_getR0 rfl rfl f_8_28 rfl (by decide) rfl rfl ?_
        refine x_callVi (d2 := 0) (c_LL_isFull (len := an) hG (lk_17 (by decide)) han (by omega)) rfl rfl v_8_139 rfl rfl (by decide) rfl rfl (Nat.le_of_ble_eq_true rfl) (by omega) (by omega) ?_
        refine x_ifB_eq rfl rfl (fun hc4 => ?_) (fun hc4 => ?_)
        · refine x_aload_n rfl rfl rfl ?_
          refine x_getR0 rfl rfl f_8_28 rfl (by decide) rfl rfl ?_
          refine x_lload_n rfl rfl rfl ?_
          refine x_callVv (d2 := 0) (c_LL_add (len := an) hG (lk_17 (by decide)) (nm) han (by omega)) rfl rfl v_8_97 rfl rfl (by decide) rfl rfl (Nat.le_of_ble_eq_true rfl) (by omega) (by omega) ?_
          refine x_iconstN (b := 1) rfl rfl ?_
          exact absurd ⟨hc1, hc2, Classical.byContradiction hc3, by omega⟩ h
        · refine x_iconstN (b := 0) rfl rfl ?_
          exact x_retZ rfl rfl rfl (Or.inl rfl) (by omega) rfl rfl
set_option maxHeartbeats 4000000 in
set_option maxRecDepth 20000 in
theorem c_append (hG : Gok G) (hd : 2 ≤ d) (v : Int64) {n : Nat} (hn : M.1 (1, 0) 5 = nI n) (hn2 : n ≤ 40) {w : Nat} (hw : M.1 (1, 0) 3 = nI w) (hw2 : w ≤ 40) {i : Nat} (hi : i < n) {il : Nat} (hil : M.1 (9, i) 1 = nI il) (hil2 : il < 8) (hkd : M.1 (8, i) 3 = nI 9) (hv : isV w n v) : Ct G mX8_append d [.ref (ga G (0, 0)), .int (nI i), .long (v)] M (.inl (some (.int (nI (il + 1))))) (ui (ul M (10, i) il v) (9, i) 1 (nI (il + 1))) 0 := by
  refine ct_of hG okX8_append (by decide +kernel) rfl (Nat.le_of_ble_eq_true rfl) ?_
  refine x_aload_n rfl rfl rfl ?_
  refine x_iload_n rfl rfl rfl ?_
  refine x_callVi (d2 := 1) (c_kind (kd := 9) hG (Nat.le_refl 1) hn hn2 hi hkd) rfl rfl v_8_133 rfl rfl (by decide) rfl rfl (Nat.le_of_ble_eq_true rfl) (by omega) (by omega) ?_
  refine x_bipush (v := nI 9) rfl rfl (by decide +kernel) ?_
  refine x_icmpN_ne (by omega) (by omega) rfl rfl (fun hc1 => absurd hc1 (by omega)) (fun hc1 => ?_)
  refine x_aload_n rfl rfl rfl ?_
  refine x_getR0 rfl rfl f_8_20 rfl (by decide) rfl rfl ?_
  refine x_lload_n rfl rfl rfl ?_
  refine x_callVi (d2 := 1) (c_isValue hG (Nat.le_refl 1) (v) hn hn2 hw hw2) rfl rfl v_8_136 rfl rfl (by decide) rfl rfl (Nat.le_of_ble_eq_true rfl) (by omega) (by omega) ?_
  refine x_ifB_ne rfl rfl (fun hc2 => ?_) (fun hc2 => absurd hv hc2)
  refine x_aload_n rfl rfl rfl ?_
  refine x_getR0 rfl rfl f_8_20 rfl (by decide) rfl rfl ?_
  refine x_getR0 rfl rfl f_8_79 rfl (by decide) rfl rfl ?_
  refine x_iload_n rfl rfl rfl ?_
  refine x_aaldi (a := i) rfl rfl rfl (by decide) (by decide) (by omega) (by decide) rfl ?_
  refine x_getRi rfl rfl f_8_92 rfl (by show _ < 40; omega) rfl rfl ?_
  refine x_astore rfl rfl rfl rfl ?_
  refine x_aload rfl rfl rfl ?_
  refine x_callVi (d2 := 0) (c_LL_isFull (len := il) hG (lk_9 (by omega)) hil (by omega)) rfl rfl v_8_139 rfl rfl (by show _ < 40; omega) rfl rfl (Nat.le_of_ble_eq_true rfl) (by omega) (by omega) ?_
  refine x_ifB_eq rfl rfl (fun hc3 => ?_) (fun hc3 => absurd hc3 (by omega))
  refine x_aload rfl rfl rfl ?_
  refine x_lload_n rfl rfl rfl ?_
  refine x_callVv (d2 := 0) (c_LL_add (len := il) hG (lk_9 (by omega)) (v) hil (by omega)) rfl rfl v_8_97 rfl rfl (by show _ < 40; omega) rfl rfl (Nat.le_of_ble_eq_true rfl) (by omega) (by omega) ?_
  refine x_aload rfl rfl rfl ?_
  refine x_getIv (v := nI (il + 1)) (by first | rfl | simp [ui, ul]) rfl rfl f_8_143 rfl (by show _ < 40; omega) rfl ?_
  exact x_retI rfl rfl rfl (by omega) rfl rfl
set_option maxHeartbeats 4000000 in
set_option maxRecDepth 20000 in
theorem c_appendF (hG : Gok G) (hd : 6 ≤ d) (v : Int64) {n : Nat} (hn : M.1 (1, 0) 5 = nI n) (hn2 : n ≤ 40) {w : Nat} (hw : M.1 (1, 0) 3 = nI w) (hw2 : w ≤ 40) {i : Nat} (hi : i < n) (hil : M.1 (9, i) 1 = nI 8) (hkd : M.1 (8, i) 3 = nI 9) (hv : isV w n v) : Ct G mX8_append d [.ref (ga G (0, 0)), .int (nI i), .long (v)] M (.inr "java/lang/IllegalStateException") M 1 := by
  refine ct_of hG okX8_append (by decide +kernel) rfl (Nat.le_of_ble_eq_true rfl) ?_
  refine x_aload_n rfl rfl rfl ?_
  refine x_iload_n rfl rfl rfl ?_
  refine x_callVi (d2 := 1) (c_kind (kd := 9) hG (Nat.le_refl 1) hn hn2 hi hkd) rfl rfl v_8_133 rfl rfl (by decide) rfl rfl (Nat.le_of_ble_eq_true rfl) (by omega) (by omega) ?_
  refine x_bipush (v := nI 9) rfl rfl (by decide +kernel) ?_
  refine x_icmpN_ne (by omega) (by omega) rfl rfl (fun hc1 => absurd hc1 (by omega)) (fun hc1 => ?_)
  refine x_aload_n rfl rfl rfl ?_
  refine x_getR0 rfl rfl f_8_20 rfl (by decide) rfl rfl ?_
  refine x_lload_n rfl rfl rfl ?_
  refine x_callVi (d2 := 1) (c_isValue hG (Nat.le_refl 1) (v) hn hn2 hw hw2) rfl rfl v_8_136 rfl rfl (by decide) rfl rfl (Nat.le_of_ble_eq_true rfl) (by omega) (by omega) ?_
  refine x_ifB_ne rfl rfl (fun hc2 => ?_) (fun hc2 => absurd hv hc2)
  refine x_aload_n rfl rfl rfl ?_
  refine x_getR0 rfl rfl f_8_20 rfl (by decide) rfl rfl ?_
  refine x_getR0 rfl rfl f_8_79 rfl (by decide) rfl rfl ?_
  refine x_iload_n rfl rfl rfl ?_
  refine x_aaldi (a := i) rfl rfl rfl (by decide) (by decide) (by omega) (by decide) rfl ?_
  refine x_getRi rfl rfl f_8_92 rfl (by show _ < 40; omega) rfl rfl ?_
  refine x_astore rfl rfl rfl rfl ?_
  refine x_aload rfl rfl rfl ?_
  refine x_callVi (d2 := 0) (c_LL_isFull (len := 8) hG (lk_9 (by omega)) hil (by omega)) rfl rfl v_8_139 rfl rfl (by show _ < 40; omega) rfl rfl (Nat.le_of_ble_eq_true rfl) (by omega) (by omega) ?_
  refine x_ifB_eq rfl rfl (fun hc3 => absurd rfl hc3) (fun hc3 => ?_)
  exact x_throw rfl rfl rfl rfl rfl rfl rfl rfl th_8_61_63 (Nat.le_of_ble_eq_true rfl) (by omega) (by omega)
set_option maxHeartbeats 4000000 in
set_option maxRecDepth 20000 in
theorem c_appendV (hG : Gok G) (hd : 6 ≤ d) (v : Int64) {n : Nat} (hn : M.1 (1, 0) 5 = nI n) (hn2 : n ≤ 40) {w : Nat} (hw : M.1 (1, 0) 3 = nI w) (hw2 : w ≤ 40) {i : Nat} (hi : i < n) (hkd : M.1 (8, i) 3 = nI 9) (hv : ¬ isV w n v) : Ct G mX8_append d [.ref (ga G (0, 0)), .int (nI i), .long (v)] M (.inr "java/lang/IllegalArgumentException") M 1 := by
  refine ct_of hG okX8_append (by decide +kernel) rfl (Nat.le_of_ble_eq_true rfl) ?_
  refine x_aload_n rfl rfl rfl ?_
  refine x_iload_n rfl rfl rfl ?_
  refine x_callVi (d2 := 1) (c_kind (kd := 9) hG (Nat.le_refl 1) hn hn2 hi hkd) rfl rfl v_8_133 rfl rfl (by decide) rfl rfl (Nat.le_of_ble_eq_true rfl) (by omega) (by omega) ?_
  refine x_bipush (v := nI 9) rfl rfl (by decide +kernel) ?_
  refine x_icmpN_ne (by omega) (by omega) rfl rfl (fun hc1 => absurd hc1 (by omega)) (fun hc1 => ?_)
  refine x_aload_n rfl rfl rfl ?_
  refine x_getR0 rfl rfl f_8_20 rfl (by decide) rfl rfl ?_
  refine x_lload_n rfl rfl rfl ?_
  refine x_callVi (d2 := 1) (c_isValue hG (Nat.le_refl 1) (v) hn hn2 hw hw2) rfl rfl v_8_136 rfl rfl (by decide) rfl rfl (Nat.le_of_ble_eq_true rfl) (by omega) (by omega) ?_
  refine x_ifB_ne rfl rfl (fun hc2 => absurd hc2 hv) (fun hc2 => ?_)
  exact x_throw rfl rfl rfl rfl rfl rfl rfl rfl th_8_89_91 (Nat.le_of_ble_eq_true rfl) (by omega) (by omega)
set_option maxHeartbeats 4000000 in
set_option maxRecDepth 20000 in
theorem c_appendK (hG : Gok G) (hd : 6 ≤ d) (v : Int64) {n : Nat} (hn : M.1 (1, 0) 5 = nI n) (hn2 : n ≤ 40) {i : Nat} (hi : i < n) {kd : Nat} (hkd : M.1 (8, i) 3 = nI kd) (hkd2 : kd < 16) (hne : kd ≠ 9) : Ct G mX8_append d [.ref (ga G (0, 0)), .int (nI i), .long (v)] M (.inr "java/lang/IllegalArgumentException") M 1 := by
  refine ct_of hG okX8_append (by decide +kernel) rfl (Nat.le_of_ble_eq_true rfl) ?_
  refine x_aload_n rfl rfl rfl ?_
  refine x_iload_n rfl rfl rfl ?_
  refine x_callVi (d2 := 1) (c_kind (kd := kd) hG (Nat.le_refl 1) hn hn2 hi hkd) rfl rfl v_8_133 rfl rfl (by decide) rfl rfl (Nat.le_of_ble_eq_true rfl) (by omega) (by omega) ?_
  refine x_bipush (v := nI 9) rfl rfl (by decide +kernel) ?_
  refine x_icmpN_ne (by omega) (by omega) rfl rfl (fun hc1 => ?_) (fun hc1 => absurd hc1 hne)
  exact x_throw rfl rfl rfl rfl rfl rfl rfl rfl th_8_89_91 (Nat.le_of_ble_eq_true rfl) (by omega) (by omega)
set_option maxHeartbeats 4000000 in
set_option maxRecDepth 20000 in
theorem c_appendT (hG : Gok G) (hd : 6 ≤ d) (v : Int64) {n : Nat} (hn : M.1 (1, 0) 5 = nI n) (hn2 : n ≤ 40) {th : Int32} (ho : ∀ i, i < n → th ≠ nI i) : Ct G mX8_append d [.ref (ga G (0, 0)), .int (th), .long (v)] M (.inr "java/lang/IllegalArgumentException") M 1 := by
  refine ct_of hG okX8_append (by decide +kernel) rfl (Nat.le_of_ble_eq_true rfl) ?_
  refine x_aload_n rfl rfl rfl ?_
  refine x_iload_n rfl rfl rfl ?_
  refine x_callVi (d2 := 1) (c_kindO hG (Nat.le_refl 1) hn hn2 ho) rfl rfl v_8_133 rfl rfl (by decide) rfl rfl (Nat.le_of_ble_eq_true rfl) (by omega) (by omega) ?_
  refine x_bipush (v := nI 9) rfl rfl (by decide +kernel) ?_
  refine x_icmp_ne rfl rfl (fun hc1 => ?_) (fun hc1 => absurd hc1 (by decide +kernel))
  exact x_throw rfl rfl rfl rfl rfl rfl rfl rfl th_8_89_91 (Nat.le_of_ble_eq_true rfl) (by omega) (by omega)
set_option maxHeartbeats 4000000 in
set_option maxRecDepth 20000 in
theorem c_hasItem9 (hG : Gok G) (hd : 2 ≤ d) {n : Nat} (hn : M.1 (1, 0) 5 = nI n) (hn2 : n ≤ 40) {i : Nat} (hi : i < n) {il : Nat} (hil : M.1 (9, i) 1 = nI il) (hil2 : il ≤ 8) (hkd : M.1 (8, i) 3 = nI 9) {j : Nat} (hj : j < il) : Ct G mX8_hasItem d [.ref (ga G (0, 0)), .int (nI i), .int (nI j)] M (.inl (some (.int (nI 1)))) M 0 := by
  refine ct_of hG okX8_hasItem (by decide +kernel) rfl (Nat.le_of_ble_eq_true rfl) ?_
  refine x_aload_n rfl rfl rfl ?_
  refine x_iload_n rfl rfl rfl ?_
  refine x_callVi (d2 := 1) (c_kind (kd := 9) hG (Nat.le_refl 1) hn hn2 hi hkd) rfl rfl v_8_133 rfl rfl (by decide) rfl rfl (Nat.le_of_ble_eq_true rfl) (by omega) (by omega) ?_
  refine x_istore_n rfl rfl rfl rfl ?_
  refine x_iload_n rfl rfl rfl ?_
  refine x_bipush (v := nI 9) rfl rfl (by decide +kernel) ?_
  refine x_icmpN_eq (by omega) (by omega) rfl rfl (fun hc1 => ?_) (fun hc1 => absurd hc1 (by omega))
  refine x_iload_n rfl rfl rfl ?_
  refine x_ifN_lt (by omega) rfl rfl (fun hc2 => hc2.elim) (fun hc2 => ?_)
  refine x_iload_n rfl rfl rfl ?_
  refine x_aload_n rfl rfl rfl ?_
  refine x_getR0 rfl rfl f_8_20 rfl (by decide) rfl rfl ?_
  refine x_getR0 rfl rfl f_8_79 rfl (by decide) rfl rfl ?_
  refine x_iload_n rfl rfl rfl ?_
  refine x_aaldi (a := i) rfl rfl rfl (by decide) (by decide) (by omega) (by decide) rfl ?_
  refine x_getRi rfl rfl f_8_92 rfl (by show _ < 40; omega) rfl rfl ?_
  refine x_getIv (v := nI il) hil rfl rfl f_8_143 rfl (by show _ < 40; omega) rfl ?_
  refine x_icmpN_ge (by omega) (by omega) rfl rfl (fun hc3 => absurd hc3 (by omega)) (fun hc3 => ?_)
  refine x_iconstN (b := 1) rfl rfl ?_
  refine x_goto rfl rfl ?_
  exact x_retZ rfl rfl rfl (by first | exact Or.inl rfl | exact Or.inr rfl) (by omega) rfl rfl
set_option maxHeartbeats 4000000 in
set_option maxRecDepth 20000 in
theorem c_hasItem9O (hG : Gok G) (hd : 2 ≤ d) {n : Nat} (hn : M.1 (1, 0) 5 = nI n) (hn2 : n ≤ 40) {i : Nat} (hi : i < n) {il : Nat} (hil : M.1 (9, i) 1 = nI il) (hil2 : il ≤ 8) (hkd : M.1 (8, i) 3 = nI 9) {j : Nat} (hj : il ≤ j) (hj2 : j < 2 ^ 31) : Ct G mX8_hasItem d [.ref (ga G (0, 0)), .int (nI i), .int (nI j)] M (.inl (some (.int (nI 0)))) M 0 := by
  refine ct_of hG okX8_hasItem (by decide +kernel) rfl (Nat.le_of_ble_eq_true rfl) ?_
  refine x_aload_n rfl rfl rfl ?_
  refine x_iload_n rfl rfl rfl ?_
  refine x_callVi (d2 := 1) (c_kind (kd := 9) hG (Nat.le_refl 1) hn hn2 hi hkd) rfl rfl v_8_133 rfl rfl (by decide) rfl rfl (Nat.le_of_ble_eq_true rfl) (by omega) (by omega) ?_
  refine x_istore_n rfl rfl rfl rfl ?_
  refine x_iload_n rfl rfl rfl ?_
  refine x_bipush (v := nI 9) rfl rfl (by decide +kernel) ?_
  refine x_icmpN_eq (by omega) (by omega) rfl rfl (fun hc1 => ?_) (fun hc1 => absurd hc1 (by omega))
  refine x_iload_n rfl rfl rfl ?_
  refine x_ifN_lt (by omega) rfl rfl (fun hc2 => hc2.elim) (fun hc2 => ?_)
  refine x_iload_n rfl rfl rfl ?_
  refine x_aload_n rfl rfl rfl ?_
  refine x_getR0 rfl rfl f_8_20 rfl (by decide) rfl rfl ?_
  refine x_getR0 rfl rfl f_8_79 rfl (by decide) rfl rfl ?_
  refine x_iload_n rfl rfl rfl ?_
  refine x_aaldi (a := i) rfl rfl rfl (by decide) (by decide) (by omega) (by decide) rfl ?_
  refine x_getRi rfl rfl f_8_92 rfl (by show _ < 40; omega) rfl rfl ?_
  refine x_getIv (v := nI il) hil rfl rfl f_8_143 rfl (by show _ < 40; omega) rfl ?_
  refine x_icmpN_ge (by omega) (by omega) rfl rfl (fun hc3 => ?_) (fun hc3 => absurd hc3 (by omega))
  refine x_iconstN (b := 0) rfl rfl ?_
  exact x_retZ rfl rfl rfl (by first | exact Or.inl rfl | exact Or.inr rfl) (by omega) rfl rfl
set_option maxHeartbeats 4000000 in
set_option maxRecDepth 20000 in
theorem c_hasItem9N (hG : Gok G) (hd : 2 ≤ d) {n : Nat} (hn : M.1 (1, 0) 5 = nI n) (hn2 : n ≤ 40) {i : Nat} (hi : i < n) (hkd : M.1 (8, i) 3 = nI 9) {j : Int32} (hj : j < 0) : Ct G mX8_hasItem d [.ref (ga G (0, 0)), .int (nI i), .int (j)] M (.inl (some (.int (nI 0)))) M 0 := by
  refine ct_of hG okX8_hasItem (by decide +kernel) rfl (Nat.le_of_ble_eq_true rfl) ?_
  refine x_aload_n rfl rfl rfl ?_
  refine x_iload_n rfl rfl rfl ?_
  refine x_callVi (d2 := 1) (c_kind (kd := 9) hG (Nat.le_refl 1) hn hn2 hi hkd) rfl rfl v_8_133 rfl rfl (by decide) rfl rfl (Nat.le_of_ble_eq_true rfl) (by omega) (by omega) ?_
  refine x_istore_n rfl rfl rfl rfl ?_
  refine x_iload_n rfl rfl rfl ?_
  refine x_bipush (v := nI 9) rfl rfl (by decide +kernel) ?_
  refine x_icmpN_eq (by omega) (by omega) rfl rfl (fun hc1 => ?_) (fun hc1 => absurd hc1 (by omega))
  refine x_iload_n rfl rfl rfl ?_
  refine x_if_lt rfl rfl (fun hc2 => ?_) (fun hc2 => absurd hj hc2)
  refine x_iconstN (b := 0) rfl rfl ?_
  exact x_retZ rfl rfl rfl (by first | exact Or.inl rfl | exact Or.inr rfl) (by omega) rfl rfl
set_option maxHeartbeats 4000000 in
set_option maxRecDepth 20000 in
theorem c_hasItem10 (hG : Gok G) (hd : 2 ≤ d) {n : Nat} (hn : M.1 (1, 0) 5 = nI n) (hn2 : n ≤ 40) {i : Nat} (hi : i < n) {il : Nat} (hil : M.1 (9, i) 1 = nI il) (hil2 : il ≤ 8) (hkd : M.1 (8, i) 3 = nI 10) {j : Nat} (hj : j < il) : Ct G mX8_hasItem d [.ref (ga G (0, 0)), .int (nI i), .int (nI j)] M (.inl (some (.int (nI 1)))) M 0 := by
  refine ct_of hG okX8_hasItem (by decide +kernel) rfl (Nat.le_of_ble_eq_true rfl) ?_
  refine x_aload_n rfl rfl rfl ?_
  refine x_iload_n rfl rfl rfl ?_
  refine x_callVi (d2 := 1) (c_kind (kd := 10) hG (Nat.le_refl 1) hn hn2 hi hkd) rfl rfl v_8_133 rfl rfl (by decide) rfl rfl (Nat.le_of_ble_eq_true rfl) (by omega) (by omega) ?_
  refine x_istore_n rfl rfl rfl rfl ?_
  refine x_iload_n rfl rfl rfl ?_
  refine x_bipush (v := nI 9) rfl rfl (by decide +kernel) ?_
  refine x_icmpN_eq (by omega) (by omega) rfl rfl (fun hc1 => absurd hc1 (by omega)) (fun hc1 => ?_)
  refine x_iload_n rfl rfl rfl ?_
  refine x_bipush (v := nI 10) rfl rfl (by decide +kernel) ?_
  refine x_icmpN_ne (by omega) (by omega) rfl rfl (fun hc2 => absurd hc2 (by omega)) (fun hc2 => ?_)
  refine x_iload_n rfl rfl rfl ?_
  refine x_ifN_lt (by omega) rfl rfl (fun hc3 => hc3.elim) (fun hc3 => ?_)
  refine x_iload_n rfl rfl rfl ?_
  refine x_aload_n rfl rfl rfl ?_
  refine x_getR0 rfl rfl f_8_20 rfl (by decide) rfl rfl ?_
  refine x_getR0 rfl rfl f_8_79 rfl (by decide) rfl rfl ?_
  refine x_iload_n rfl rfl rfl ?_
  refine x_aaldi (a := i) rfl rfl rfl (by decide) (by decide) (by omega) (by decide) rfl ?_
  refine x_getRi rfl rfl f_8_92 rfl (by show _ < 40; omega) rfl rfl ?_
  refine x_getIv (v := nI il) hil rfl rfl f_8_143 rfl (by show _ < 40; omega) rfl ?_
  refine x_icmpN_ge (by omega) (by omega) rfl rfl (fun hc4 => absurd hc4 (by omega)) (fun hc4 => ?_)
  refine x_iconstN (b := 1) rfl rfl ?_
  refine x_goto rfl rfl ?_
  exact x_retZ rfl rfl rfl (by first | exact Or.inl rfl | exact Or.inr rfl) (by omega) rfl rfl
set_option maxHeartbeats 4000000 in
set_option maxRecDepth 20000 in
theorem c_hasItem10O (hG : Gok G) (hd : 2 ≤ d) {n : Nat} (hn : M.1 (1, 0) 5 = nI n) (hn2 : n ≤ 40) {i : Nat} (hi : i < n) {il : Nat} (hil : M.1 (9, i) 1 = nI il) (hil2 : il ≤ 8) (hkd : M.1 (8, i) 3 = nI 10) {j : Nat} (hj : il ≤ j) (hj2 : j < 2 ^ 31) : Ct G mX8_hasItem d [.ref (ga G (0, 0)), .int (nI i), .int (nI j)] M (.inl (some (.int (nI 0)))) M 0 := by
  refine ct_of hG okX8_hasItem (by decide +kernel) rfl (Nat.le_of_ble_eq_true rfl) ?_
  refine x_aload_n rfl rfl rfl ?_
  refine x_iload_n rfl rfl rfl ?_
  refine x_callVi (d2 := 1) (c_kind (kd := 10) hG (Nat.le_refl 1) hn hn2 hi hkd) rfl rfl v_8_133 rfl rfl (by decide) rfl rfl (Nat.le_of_ble_eq_true rfl) (by omega) (by omega) ?_
  refine x_istore_n rfl rfl rfl rfl ?_
  refine x_iload_n rfl rfl rfl ?_
  refine x_bipush (v := nI 9) rfl rfl (by decide +kernel) ?_
  refine x_icmpN_eq (by omega) (by omega) rfl rfl (fun hc1 => absurd hc1 (by omega)) (fun hc1 => ?_)
  refine x_iload_n rfl rfl rfl ?_
  refine x_bipush (v := nI 10) rfl rfl (by decide +kernel) ?_
  refine x_icmpN_ne (by omega) (by omega) rfl rfl (fun hc2 => absurd hc2 (by omega)) (fun hc2 => ?_)
  refine x_iload_n rfl rfl rfl ?_
  refine x_ifN_lt (by omega) rfl rfl (fun hc3 => hc3.elim) (fun hc3 => ?_)
  refine x_iload_n rfl rfl rfl ?_
  refine x_aload_n rfl rfl rfl ?_
  refine x_getR0 rfl rfl f_8_20 rfl (by decide) rfl rfl ?_
  refine x_getR0 rfl rfl f_8_79 rfl (by decide) rfl rfl ?_
  refine x_iload_n rfl rfl rfl ?_
  refine x_aaldi (a := i) rfl rfl rfl (by decide) (by decide) (by omega) (by decide) rfl ?_
  refine x_getRi rfl rfl f_8_92 rfl (by show _ < 40; omega) rfl rfl ?_
  refine x_getIv (v := nI il) hil rfl rfl f_8_143 rfl (by show _ < 40; omega) rfl ?_
  refine x_icmpN_ge (by omega) (by omega) rfl rfl (fun hc4 => ?_) (fun hc4 => absurd hc4 (by omega))
  refine x_iconstN (b := 0) rfl rfl ?_
  exact x_retZ rfl rfl rfl (by first | exact Or.inl rfl | exact Or.inr rfl) (by omega) rfl rfl
set_option maxHeartbeats 4000000 in
set_option maxRecDepth 20000 in
theorem c_hasItem10N (hG : Gok G) (hd : 2 ≤ d) {n : Nat} (hn : M.1 (1, 0) 5 = nI n) (hn2 : n ≤ 40) {i : Nat} (hi : i < n) (hkd : M.1 (8, i) 3 = nI 10) {j : Int32} (hj : j < 0) : Ct G mX8_hasItem d [.ref (ga G (0, 0)), .int (nI i), .int (j)] M (.inl (some (.int (nI 0)))) M 0 := by
  refine ct_of hG okX8_hasItem (by decide +kernel) rfl (Nat.le_of_ble_eq_true rfl) ?_
  refine x_aload_n rfl rfl rfl ?_
  refine x_iload_n rfl rfl rfl ?_
  refine x_callVi (d2 := 1) (c_kind (kd := 10) hG (Nat.le_refl 1) hn hn2 hi hkd) rfl rfl v_8_133 rfl rfl (by decide) rfl rfl (Nat.le_of_ble_eq_true rfl) (by omega) (by omega) ?_
  refine x_istore_n rfl rfl rfl rfl ?_
  refine x_iload_n rfl rfl rfl ?_
  refine x_bipush (v := nI 9) rfl rfl (by decide +kernel) ?_
  refine x_icmpN_eq (by omega) (by omega) rfl rfl (fun hc1 => absurd hc1 (by omega)) (fun hc1 => ?_)
  refine x_iload_n rfl rfl rfl ?_
  refine x_bipush (v := nI 10) rfl rfl (by decide +kernel) ?_
  refine x_icmpN_ne (by omega) (by omega) rfl rfl (fun hc2 => absurd hc2 (by omega)) (fun hc2 => ?_)
  refine x_iload_n rfl rfl rfl ?_
  refine x_if_lt rfl rfl (fun hc3 => ?_) (fun hc3 => absurd hj hc3)
  refine x_iconstN (b := 0) rfl rfl ?_
  exact x_retZ rfl rfl rfl (by first | exact Or.inl rfl | exact Or.inr rfl) (by omega) rfl rfl
set_option maxHeartbeats 4000000 in
set_option maxRecDepth 20000 in
theorem c_hasItemK (hG : Gok G) (hd : 2 ≤ d) {n : Nat} (hn : M.1 (1, 0) 5 = nI n) (hn2 : n ≤ 40) {i : Nat} (hi : i < n) {kd : Nat} (hkd : M.1 (8, i) 3 = nI kd) (hkd2 : kd < 16) (h9 : kd ≠ 9) (h10 : kd ≠ 10) (j : Int32) : Ct G mX8_hasItem d [.ref (ga G (0, 0)), .int (nI i), .int (j)] M (.inl (some (.int (nI 0)))) M 0 := by
  refine ct_of hG okX8_hasItem (by decide +kernel) rfl (Nat.le_of_ble_eq_true rfl) ?_
  refine x_aload_n rfl rfl rfl ?_
  refine x_iload_n rfl rfl rfl ?_
  refine x_callVi (d2 := 1) (c_kind (kd := kd) hG (Nat.le_refl 1) hn hn2 hi hkd) rfl rfl v_8_133 rfl rfl (by decide) rfl rfl (Nat.le_of_ble_eq_true rfl) (by omega) (by omega) ?_
  refine x_istore_n rfl rfl rfl rfl ?_
  refine x_iload_n rfl rfl rfl ?_
  refine x_bipush (v := nI 9) rfl rfl (by decide +kernel) ?_
  refine x_icmpN_eq (by omega) (by omega) rfl rfl (fun hc1 => absurd hc1 h9) (fun hc1 => ?_)
  refine x_iload_n rfl rfl rfl ?_
  refine x_bipush (v := nI 10) rfl rfl (by decide +kernel) ?_
  refine x_icmpN_ne (by omega) (by omega) rfl rfl (fun hc2 => ?_) (fun hc2 => absurd hc2 h10)
  refine x_iconstN (b := 0) rfl rfl ?_
  exact x_retZ rfl rfl rfl (by first | exact Or.inl rfl | exact Or.inr rfl) (by omega) rfl rfl
set_option maxHeartbeats 4000000 in
set_option maxRecDepth 20000 in
theorem c_hasItemT (hG : Gok G) (hd : 2 ≤ d) {n : Nat} (hn : M.1 (1, 0) 5 = nI n) (hn2 : n ≤ 40) {th : Int32} (ho : ∀ i, i < n → th ≠ nI i) (j : Int32) : Ct G mX8_hasItem d [.ref (ga G (0, 0)), .int (th), .int (j)] M (.inl (some (.int (nI 0)))) M 0 := by
  refine ct_of hG okX8_hasItem (by decide +kernel) rfl (Nat.le_of_ble_eq_true rfl) ?_
  refine x_aload_n rfl rfl rfl ?_
  refine x_iload_n rfl rfl rfl ?_
  refine x_callVi (d2 := 1) (c_kindO hG (Nat.le_refl 1) hn hn2 ho) rfl rfl v_8_133 rfl rfl (by decide) rfl rfl (Nat.le_of_ble_eq_true rfl) (by omega) (by omega) ?_
  refine x_istore_n rfl rfl rfl rfl ?_
  refine x_iload_n rfl rfl rfl ?_
  refine x_bipush (v := nI 9) rfl rfl (by decide +kernel) ?_
  refine x_icmp_eq rfl rfl (fun hc1 => absurd hc1 (by decide +kernel)) (fun hc1 => ?_)
  refine x_iload_n rfl rfl rfl ?_
  refine x_bipush (v := nI 10) rfl rfl (by decide +kernel) ?_
  refine x_icmp_ne rfl rfl (fun hc2 => ?_) (fun hc2 => absurd hc2 (by decide +kernel))
  refine x_iconstN (b := 0) rfl rfl ?_
  exact x_retZ rfl rfl rfl (by first | exact Or.inl rfl | exact Or.inr rfl) (by omega) rfl rfl
set_option maxHeartbeats 4000000 in
set_option maxRecDepth 20000 in
theorem c_set9 (hG : Gok G) (hd : 3 ≤ d) (v : Int64) {n : Nat} (hn : M.1 (1, 0) 5 = nI n) (hn2 : n ≤ 40) {w : Nat} (hw : M.1 (1, 0) 3 = nI w) (hw2 : w ≤ 40) {i : Nat} (hi : i < n) {il : Nat} (hil : M.1 (9, i) 1 = nI il) (hil2 : il ≤ 8) (hkd : M.1 (8, i) 3 = nI 9) {j : Nat} (hj : j < il) (hv : isV w n v) : Ct G mX8_set d [.ref (ga G (0, 0)), .int (nI i), .int (nI j), .long (v)] M (.inl none) (ul M (10, i) j v) 0 := by
  refine ct_of hG okX8_set (by decide +kernel) rfl (Nat.le_of_ble_eq_true rfl) ?_
  refine x_aload_n rfl rfl rfl ?_
  refine x_iload_n rfl rfl rfl ?_
  refine x_iload_n rfl rfl rfl ?_
  refine x_callVi (d2 := 2) (c_hasItem9 hG (Nat.le_refl 2) hn hn2 hi hil hil2 hkd hj) rfl rfl v_8_146 rfl rfl (by decide) rfl rfl (Nat.le_of_ble_eq_true rfl) (by omega) (by omega) ?_
  refine x_if_eq rfl rfl (fun hc1 => absurd hc1 (by decide +kernel)) (fun _ => ?_)
  refine x_aload_n rfl rfl rfl ?_
  refine x_getR0 rfl rfl f_8_20 rfl (by decide) rfl rfl ?_
  refine x_lload_n rfl rfl rfl ?_
  refine x_callVi (d2 := 1) (c_isValue hG (Nat.le_refl 1) (v) hn hn2 hw hw2) rfl rfl v_8_136 rfl rfl (by decide) rfl rfl (Nat.le_of_ble_eq_true rfl) (by omega) (by omega) ?_
  refine x_ifB_ne rfl rfl (fun hc2 => ?_) (fun hc2 => absurd hv hc2)
  refine x_aload_n rfl rfl rfl ?_
  refine x_getR0 rfl rfl f_8_20 rfl (by decide) rfl rfl ?_
  refine x_getR0 rfl rfl f_8_79 rfl (by decide) rfl rfl ?_
  refine x_iload_n rfl rfl rfl ?_
  refine x_aaldi (a := i) rfl rfl rfl (by decide) (by decide) (by omega) (by decide) rfl ?_
  refine x_getRi rfl rfl f_8_92 rfl (by show _ < 40; omega) rfl rfl ?_
  refine x_iload_n rfl rfl rfl ?_
  refine x_lload_n rfl rfl rfl ?_
  refine x_callVv (d2 := 0) (c_LL_replace (len := il) hG (lk_9 (by omega)) (j) (v) hil (by omega) (by omega)) rfl rfl v_8_150 rfl rfl (by show _ < 40; omega) rfl rfl (Nat.le_of_ble_eq_true rfl) (by omega) (by omega) ?_
  exact x_retV rfl rfl rfl (by omega) rfl rfl
set_option maxHeartbeats 4000000 in
set_option maxRecDepth 20000 in
theorem c_set9V (hG : Gok G) (hd : 6 ≤ d) (v : Int64) {n : Nat} (hn : M.1 (1, 0) 5 = nI n) (hn2 : n ≤ 40) {w : Nat} (hw : M.1 (1, 0) 3 = nI w) (hw2 : w ≤ 40) {i : Nat} (hi : i < n) {il : Nat} (hil : M.1 (9, i) 1 = nI il) (hil2 : il ≤ 8) (hkd : M.1 (8, i) 3 = nI 9) {j : Nat} (hj : j < il) (hv : ¬ isV w n v) : Ct G mX8_set d [.ref (ga G (0, 0)), .int (nI i), .int (nI j), .long (v)] M (.inr "java/lang/IllegalArgumentException") M 1 := by
  refine ct_of hG okX8_set (by decide +kernel) rfl (Nat.le_of_ble_eq_true rfl) ?_
  refine x_aload_n rfl rfl rfl ?_
  refine x_iload_n rfl rfl rfl ?_
  refine x_iload_n rfl rfl rfl ?_
  refine x_callVi (d2 := 2) (c_hasItem9 hG (Nat.le_refl 2) hn hn2 hi hil hil2 hkd hj) rfl rfl v_8_146 rfl rfl (by decide) rfl rfl (Nat.le_of_ble_eq_true rfl) (by omega) (by omega) ?_
  refine x_if_eq rfl rfl (fun hc1 => absurd hc1 (by decide +kernel)) (fun _ => ?_)
  refine x_aload_n rfl rfl rfl ?_
  refine x_getR0 rfl rfl f_8_20 rfl (by decide) rfl rfl ?_
  refine x_lload_n rfl rfl rfl ?_
  refine x_callVi (d2 := 1) (c_isValue hG (Nat.le_refl 1) (v) hn hn2 hw hw2) rfl rfl v_8_136 rfl rfl (by decide) rfl rfl (Nat.le_of_ble_eq_true rfl) (by omega) (by omega) ?_
  refine x_ifB_ne rfl rfl (fun hc2 => absurd hc2 hv) (fun hc2 => ?_)
  exact x_throw rfl rfl rfl rfl rfl rfl rfl rfl th_8_89_91 (Nat.le_of_ble_eq_true rfl) (by omega) (by omega)
set_option maxHeartbeats 4000000 in
set_option maxRecDepth 20000 in
theorem c_set9O (hG : Gok G) (hd : 6 ≤ d) (v : Int64) {n : Nat} (hn : M.1 (1, 0) 5 = nI n) (hn2 : n ≤ 40) {i : Nat} (hi : i < n) {il : Nat} (hil : M.1 (9, i) 1 = nI il) (hil2 : il ≤ 8) (hkd : M.1 (8, i) 3 = nI 9) {j : Nat} (hj : il ≤ j) (hj2 : j < 2 ^ 31) : Ct G mX8_set d [.ref (ga G (0, 0)), .int (nI i), .int (nI j), .long (v)] M (.inr "java/lang/IllegalArgumentException") M 1 := by
  refine ct_of hG okX8_set (by decide +kernel) rfl (Nat.le_of_ble_eq_true rfl) ?_
  refine x_aload_n rfl rfl rfl ?_
  refine x_iload_n rfl rfl rfl ?_
  refine x_iload_n rfl rfl rfl ?_
  refine x_callVi (d2 := 2) (c_hasItem9O hG (Nat.le_refl 2) hn hn2 hi hil hil2 hkd hj hj2) rfl rfl v_8_146 rfl rfl (by decide) rfl rfl (Nat.le_of_ble_eq_true rfl) (by omega) (by omega) ?_
  refine x_if_eq rfl rfl (fun _ => ?_) (fun hc1 => absurd hc1 (by decide +kernel))
  exact x_throw rfl rfl rfl rfl rfl rfl rfl rfl th_8_89_91 (Nat.le_of_ble_eq_true rfl) (by omega) (by omega)
set_option maxHeartbeats 4000000 in
set_option maxRecDepth 20000 in
theorem c_set9N (hG : Gok G) (hd : 6 ≤ d) (v : Int64) {n : Nat} (hn : M.1 (1, 0) 5 = nI n) (hn2 : n ≤ 40) {i : Nat} (hi : i < n) (hkd : M.1 (8, i) 3 = nI 9) {j : Int32} (hj : j < 0) : Ct G mX8_set d [.ref (ga G (0, 0)), .int (nI i), .int (j), .long (v)] M (.inr "java/lang/IllegalArgumentException") M 1 := by
  refine ct_of hG okX8_set (by decide +kernel) rfl (Nat.le_of_ble_eq_true rfl) ?_
  refine x_aload_n rfl rfl rfl ?_
  refine x_iload_n rfl rfl rfl ?_
  refine x_iload_n rfl rfl rfl ?_
  refine x_callVi (d2 := 2) (c_hasItem9N hG (Nat.le_refl 2) hn hn2 hi hkd hj) rfl rfl v_8_146 rfl rfl (by decide) rfl rfl (Nat.le_of_ble_eq_true rfl) (by omega) (by omega) ?_
  refine x_if_eq rfl rfl (fun _ => ?_) (fun hc1 => absurd hc1 (by decide +kernel))
  exact x_throw rfl rfl rfl rfl rfl rfl rfl rfl th_8_89_91 (Nat.le_of_ble_eq_true rfl) (by omega) (by omega)
set_option maxHeartbeats 4000000 in
set_option maxRecDepth 20000 in
theorem c_set10 (hG : Gok G) (hd : 3 ≤ d) (v : Int64) {n : Nat} (hn : M.1 (1, 0) 5 = nI n) (hn2 : n ≤ 40) {w : Nat} (hw : M.1 (1, 0) 3 = nI w) (hw2 : w ≤ 40) {i : Nat} (hi : i < n) {il : Nat} (hil : M.1 (9, i) 1 = nI il) (hil2 : il ≤ 8) (hkd : M.1 (8, i) 3 = nI 10) {j : Nat} (hj : j < il) (hv : isV w n v) : Ct G mX8_set d [.ref (ga G (0, 0)), .int (nI i), .int (nI j), .long (v)] M (.inl none) (ul M (10, i) j v) 0 := by
  refine ct_of hG okX8_set (by decide +kernel) rfl (Nat.le_of_ble_eq_true rfl) ?_
  refine x_aload_n rfl rfl rfl ?_
  refine x_iload_n rfl rfl rfl ?_
  refine x_iload_n rfl rfl rfl ?_
  refine x_callVi (d2 := 2) (c_hasItem10 hG (Nat.le_refl 2) hn hn2 hi hil hil2 hkd hj) rfl rfl v_8_146 rfl rfl (by decide) rfl rfl (Nat.le_of_ble_eq_true rfl) (by omega) (by omega) ?_
  refine x_if_eq rfl rfl (fun hc1 => absurd hc1 (by decide +kernel)) (fun _ => ?_)
  refine x_aload_n rfl rfl rfl ?_
  refine x_getR0 rfl rfl f_8_20 rfl (by decide) rfl rfl ?_
  refine x_lload_n rfl rfl rfl ?_
  refine x_callVi (d2 := 1) (c_isValue hG (Nat.le_refl 1) (v) hn hn2 hw hw2) rfl rfl v_8_136 rfl rfl (by decide) rfl rfl (Nat.le_of_ble_eq_true rfl) (by omega) (by omega) ?_
  refine x_ifB_ne rfl rfl (fun hc2 => ?_) (fun hc2 => absurd hv hc2)
  refine x_aload_n rfl rfl rfl ?_
  refine x_getR0 rfl rfl f_8_20 rfl (by decide) rfl rfl ?_
  refine x_getR0 rfl rfl f_8_79 rfl (by decide) rfl rfl ?_
  refine x_iload_n rfl rfl rfl ?_
  refine x_aaldi (a := i) rfl rfl rfl (by decide) (by decide) (by omega) (by decide) rfl ?_
  refine x_getRi rfl rfl f_8_92 rfl (by show _ < 40; omega) rfl rfl ?_
  refine x_iload_n rfl rfl rfl ?_
  refine x_lload_n rfl rfl rfl ?_
  refine x_callVv (d2 := 0) (c_LL_replace (len := il) hG (lk_9 (by omega)) (j) (v) hil (by omega) (by omega)) rfl rfl v_8_150 rfl rfl (by show _ < 40; omega) rfl rfl (Nat.le_of_ble_eq_true rfl) (by omega) (by omega) ?_
  exact x_retV rfl rfl rfl (by omega) rfl rfl
set_option maxHeartbeats 4000000 in
set_option maxRecDepth 20000 in
theorem c_set10V (hG : Gok G) (hd : 6 ≤ d) (v : Int64) {n : Nat} (hn : M.1 (1, 0) 5 = nI n) (hn2 : n ≤ 40) {w : Nat} (hw : M.1 (1, 0) 3 = nI w) (hw2 : w ≤ 40) {i : Nat} (hi : i < n) {il : Nat} (hil : M.1 (9, i) 1 = nI il) (hil2 : il ≤ 8) (hkd : M.1 (8, i) 3 = nI 10) {j : Nat} (hj : j < il) (hv : ¬ isV w n v) : Ct G mX8_set d [.ref (ga G (0, 0)), .int (nI i), .int (nI j), .long (v)] M (.inr "java/lang/IllegalArgumentException") M 1 := by
  refine ct_of hG okX8_set (by decide +kernel) rfl (Nat.le_of_ble_eq_true rfl) ?_
  refine x_aload_n rfl rfl rfl ?_
  refine x_iload_n rfl rfl rfl ?_
  refine x_iload_n rfl rfl rfl ?_
  refine x_callVi (d2 := 2) (c_hasItem10 hG (Nat.le_refl 2) hn hn2 hi hil hil2 hkd hj) rfl rfl v_8_146 rfl rfl (by decide) rfl rfl (Nat.le_of_ble_eq_true rfl) (by omega) (by omega) ?_
  refine x_if_eq rfl rfl (fun hc1 => absurd hc1 (by decide +kernel)) (fun _ => ?_)
  refine x_aload_n rfl rfl rfl ?_
  refine x_getR0 rfl rfl f_8_20 rfl (by decide) rfl rfl ?_
  refine x_lload_n rfl rfl rfl ?_
  refine x_callVi (d2 := 1) (c_isValue hG (Nat.le_refl 1) (v) hn hn2 hw hw2) rfl rfl v_8_136 rfl rfl (by decide) rfl rfl (Nat.le_of_ble_eq_true rfl) (by omega) (by omega) ?_
  refine x_ifB_ne rfl rfl (fun hc2 => absurd hc2 hv) (fun hc2 => ?_)
  exact x_throw rfl rfl rfl rfl rfl rfl rfl rfl th_8_89_91 (Nat.le_of_ble_eq_true rfl) (by omega) (by omega)
set_option maxHeartbeats 4000000 in
set_option maxRecDepth 20000 in
theorem c_set10O (hG : Gok G) (hd : 6 ≤ d) (v : Int64) {n : Nat} (hn : M.1 (1, 0) 5 = nI n) (hn2 : n ≤ 40) {i : Nat} (hi : i < n) {il : Nat} (hil : M.1 (9, i) 1 = nI il) (hil2 : il ≤ 8) (hkd : M.1 (8, i) 3 = nI 10) {j : Nat} (hj : il ≤ j) (hj2 : j < 2 ^ 31) : Ct G mX8_set d [.ref (ga G (0, 0)), .int (nI i), .int (nI j), .long (v)] M (.inr "java/lang/IllegalArgumentException") M 1 := by
  refine ct_of hG okX8_set (by decide +kernel) rfl (Nat.le_of_ble_eq_true rfl) ?_
  refine x_aload_n rfl rfl rfl ?_
  refine x_iload_n rfl rfl rfl ?_
  refine x_iload_n rfl rfl rfl ?_
  refine x_callVi (d2 := 2) (c_hasItem10O hG (Nat.le_refl 2) hn hn2 hi hil hil2 hkd hj hj2) rfl rfl v_8_146 rfl rfl (by decide) rfl rfl (Nat.le_of_ble_eq_true rfl) (by omega) (by omega) ?_
  refine x_if_eq rfl rfl (fun _ => ?_) (fun hc1 => absurd hc1 (by decide +kernel))
  exact x_throw rfl rfl rfl rfl rfl rfl rfl rfl th_8_89_91 (Nat.le_of_ble_eq_true rfl) (by omega) (by omega)
set_option maxHeartbeats 4000000 in
set_option maxRecDepth 20000 in
theorem c_set10N (hG : Gok G) (hd : 6 ≤ d) (v : Int64) {n : Nat} (hn : M.1 (1, 0) 5 = nI n) (hn2 : n ≤ 40) {i : Nat} (hi : i < n) (hkd : M.1 (8, i) 3 = nI 10) {j : Int32} (hj : j < 0) : Ct G mX8_set d [.ref (ga G (0, 0)), .int (nI i), .int (j), .long (v)] M (.inr "java/lang/IllegalArgumentException") M 1 := by
  refine ct_of hG okX8_set (by decide +kernel) rfl (Nat.le_of_ble_eq_true rfl) ?_
  refine x_aload_n rfl rfl rfl ?_
  refine x_iload_n rfl rfl rfl ?_
  refine x_iload_n rfl rfl rfl ?_
  refine x_callVi (d2 := 2) (c_hasItem10N hG (Nat.le_refl 2) hn hn2 hi hkd hj) rfl rfl v_8_146 rfl rfl (by decide) rfl rfl (Nat.le_of_ble_eq_true rfl) (by omega) (by omega) ?_
  refine x_if_eq rfl rfl (fun _ => ?_) (fun hc1 => absurd hc1 (by decide +kernel))
  exact x_throw rfl rfl rfl rfl rfl rfl rfl rfl th_8_89_91 (Nat.le_of_ble_eq_true rfl) (by omega) (by omega)
set_option maxHeartbeats 4000000 in
set_option maxRecDepth 20000 in
theorem c_setK (hG : Gok G) (hd : 6 ≤ d) (v : Int64) {n : Nat} (hn : M.1 (1, 0) 5 = nI n) (hn2 : n ≤ 40) {i : Nat} (hi : i < n) {kd : Nat} (hkd : M.1 (8, i) 3 = nI kd) (hkd2 : kd < 16) (h9 : kd ≠ 9) (h10 : kd ≠ 10) (j : Int32) : Ct G mX8_set d [.ref (ga G (0, 0)), .int (nI i), .int (j), .long (v)] M (.inr "java/lang/IllegalArgumentException") M 1 := by
  refine ct_of hG okX8_set (by decide +kernel) rfl (Nat.le_of_ble_eq_true rfl) ?_
  refine x_aload_n rfl rfl rfl ?_
  refine x_iload_n rfl rfl rfl ?_
  refine x_iload_n rfl rfl rfl ?_
  refine x_callVi (d2 := 2) (c_hasItemK hG (Nat.le_refl 2) hn hn2 hi hkd hkd2 h9 h10 j) rfl rfl v_8_146 rfl rfl (by decide) rfl rfl (Nat.le_of_ble_eq_true rfl) (by omega) (by omega) ?_
  refine x_if_eq rfl rfl (fun _ => ?_) (fun hc1 => absurd hc1 (by decide +kernel))
  exact x_throw rfl rfl rfl rfl rfl rfl rfl rfl th_8_89_91 (Nat.le_of_ble_eq_true rfl) (by omega) (by omega)
set_option maxHeartbeats 4000000 in
set_option maxRecDepth 20000 in
theorem c_setT (hG : Gok G) (hd : 6 ≤ d) (v : Int64) {n : Nat} (hn : M.1 (1, 0) 5 = nI n) (hn2 : n ≤ 40) {th : Int32} (ho : ∀ i, i < n → th ≠ nI i) (j : Int32) : Ct G mX8_set d [.ref (ga G (0, 0)), .int (th), .int (j), .long (v)] M (.inr "java/lang/IllegalArgumentException") M 1 := by
  refine ct_of hG okX8_set (by decide +kernel) rfl (Nat.le_of_ble_eq_true rfl) ?_
  refine x_aload_n rfl rfl rfl ?_
  refine x_iload_n rfl rfl rfl ?_
  refine x_iload_n rfl rfl rfl ?_
  refine x_callVi (d2 := 2) (c_hasItemT hG (Nat.le_refl 2) hn hn2 ho j) rfl rfl v_8_146 rfl rfl (by decide) rfl rfl (Nat.le_of_ble_eq_true rfl) (by omega) (by omega) ?_
  refine x_if_eq rfl rfl (fun _ => ?_) (fun hc1 => absurd hc1 (by decide +kernel))
  exact x_throw rfl rfl rfl rfl rfl rfl rfl rfl th_8_89_91 (Nat.le_of_ble_eq_true rfl) (by omega) (by omega)
set_option maxHeartbeats 4000000 in
set_option maxRecDepth 20000 in
theorem c_chk9 (hG : Gok G) (hd : 1 ≤ d) (e : Int64) {n : Nat} (hn : M.1 (1, 0) 5 = nI n) (hn2 : n ≤ 40) {i : Nat} (hi : i < n) (hkd : M.1 (8, i) 3 = nI 9) : Ct G mX8_canHaveKey d [.ref (ga G (0, 0)), .int (nI i), .long (e)] M (.inl (some (.int (bI (isTx e ∧ e ≠ 0))))) M 0 := by
  refine ct_of hG okX8_canHaveKey (by decide +kernel) rfl (Nat.le_of_ble_eq_true rfl) ?_
  refine x_aload_n rfl rfl rfl ?_
  refine x_getR0 rfl rfl f_8_20 rfl (by decide) rfl rfl ?_
  refine x_iload_n rfl rfl rfl ?_
  refine x_i2lN (a := i) (by omega) rfl rfl ?_
  refine x_callVi (d2 := 0) (c_isThing hG (lN (i)) hn hn2) rfl rfl v_8_210 rfl rfl (by decide) rfl rfl (Nat.le_of_ble_eq_true rfl) (by omega) (by omega) ?_
  refine x_ifB_eq rfl rfl (fun hc1 => absurd (inTh hi hn2) hc1) (fun hc1 => ?_)
  refine x_lload_n rfl rfl rfl ?_
  refine x_callSi (d2 := 0) (c_isText hG (e)) rfl rfl s_8_101 rfl rfl (Nat.le_of_ble_eq_true rfl) (by omega) (by omega) ?_
  refine x_ifB_eq rfl rfl (fun hc2 => ?_) (fun hc2 => ?_)
  · refine x_iconstN (b := 0) rfl rfl ?_
    exact x_retZ rfl rfl rfl (by first | exact Or.inl rfl | exact Or.inr rfl) (by omega) (oB_f (by simp_all)) rfl
  · refine x_lload_n rfl rfl rfl ?_
    refine x_lconst (v := 0) rfl rfl (by decide +kernel) ?_
    refine x_lc_ne rfl rfl rfl rfl (fun hc3 => ?_) (fun hc3 => ?_)
    · refine x_aload_n rfl rfl rfl ?_
      refine x_getR0 rfl rfl f_8_20 rfl (by decide) rfl rfl ?_
      refine x_getR0 rfl rfl f_8_79 rfl (by decide) rfl rfl ?_
      refine x_iload_n rfl rfl rfl ?_
      refine x_aaldi (a := i) rfl rfl rfl (by decide) (by decide) (by omega) (by decide) rfl ?_
      refine x_astore rfl rfl rfl rfl ?_
      refine x_aload_n rfl rfl rfl ?_
      refine x_getR0 rfl rfl f_8_20 rfl (by decide) rfl rfl ?_
      refine x_aload rfl rfl rfl ?_
      refine x_callVi (d2 := 0) (c_chp9 hG (by omega) hkd) rfl rfl v_8_231 rfl rfl (by decide) rfl rfl (Nat.le_of_ble_eq_true rfl) (by omega) (by omega) ?_
      refine x_if_eq rfl rfl (fun hc4 => absurd hc4 (by decide +kernel)) (fun _ => ?_)
      refine x_aload_n rfl rfl rfl ?_
      refine x_getR0 rfl rfl f_8_20 rfl (by decide) rfl rfl ?_
      refine x_aload rfl rfl rfl ?_
      refine x_lload_n rfl rfl rfl ?_
      refine x_callVi (d2 := 0) (c_isMemberO hG (by omega) (by decide) (e) hkd (by decide)) rfl rfl v_8_235 rfl rfl (by decide) rfl rfl (Nat.le_of_ble_eq_true rfl) (by omega) (by omega) ?_
      refine x_if_ne rfl rfl (fun hc5 => absurd hc5 (by decide +kernel)) (fun _ => ?_)
      refine x_iconstN (b := 1) rfl rfl ?_
      refine x_goto rfl rfl ?_
      exact x_retZ rfl rfl rfl (by first | exact Or.inl rfl | exact Or.inr rfl) (by omega) (oB_t (by simp_all)) rfl
    · refine x_iconstN (b := 0) rfl rfl ?_
      exact x_retZ rfl rfl rfl (by first | exact Or.inl rfl | exact Or.inr rfl) (by omega) (oB_f (by simp_all)) rfl
set_option maxHeartbeats 4000000 in
set_option maxRecDepth 20000 in
theorem c_chk10 (hG : Gok G) (hd : 3 ≤ d) (e : Int64) {n : Nat} (hn : M.1 (1, 0) 5 = nI n) (hn2 : n ≤ 40) {i : Nat} (hi : i < n) (hkd : M.1 (8, i) 3 = nI 10) {t m : Nat} (ht : t < 13) (dy : Prop) (htr : M.1 (8, i) 4 = nI t) (hdy : M.1 (5, t) 2 = bI dy) (hm : M.1 (6, t) 1 = nI m) (hm2 : m ≤ 3) : Ct G mX8_canHaveKey d [.ref (ga G (0, 0)), .int (nI i), .long (e)] M (.inl (some (.int (bI ((isTx e ∧ e ≠ 0) ∧ dy ∧ fx (M.2 (7, t)) e 0 m = none))))) M 0 := by
  refine ct_of hG okX8_canHaveKey (by decide +kernel) rfl (Nat.le_of_ble_eq_true rfl) ?_
  refine x_aload_n rfl rfl rfl ?_
  refine x_getR0 rfl rfl f_8_20 rfl (by decide) rfl rfl ?_
  refine x_iload_n rfl rfl rfl ?_
  refine x_i2lN (a := i) (by omega) rfl rfl ?_
  refine x_callVi (d2 := 0) (c_isThing hG (lN (i)) hn hn2) rfl rfl v_8_210 rfl rfl (by decide) rfl rfl (Nat.le_of_ble_eq_true rfl) (by omega) (by omega) ?_
  refine x_ifB_eq rfl rfl (fun hc1 => absurd (inTh hi hn2) hc1) (fun hc1 => ?_)
  refine x_lload_n rfl rfl rfl ?_
  refine x_callSi (d2 := 0) (c_isText hG (e)) rfl rfl s_8_101 rfl rfl (Nat.le_of_ble_eq_true rfl) (by omega) (by omega) ?_
  refine x_ifB_eq rfl rfl (fun hc2 => ?_) (fun hc2 => ?_)
  · refine x_iconstN (b := 0) rfl rfl ?_
    exact x_retZ rfl rfl rfl (by first | exact Or.inl rfl | exact Or.inr rfl) (by omega) (oB_f (by simp_all)) rfl
  · refine x_lload_n rfl rfl rfl ?_
    refine x_lconst (v := 0) rfl rfl (by decide +kernel) ?_
    refine x_lc_ne rfl rfl rfl rfl (fun hc3 => ?_) (fun hc3 => ?_)
    · refine x_aload_n rfl rfl rfl ?_
      refine x_getR0 rfl rfl f_8_20 rfl (by decide) rfl rfl ?_
      refine x_getR0 rfl rfl f_8_79 rfl (by decide) rfl rfl ?_
      refine x_iload_n rfl rfl rfl ?_
      refine x_aaldi (a := i) rfl rfl rfl (by decide) (by decide) (by omega) (by decide) rfl ?_
      refine x_astore rfl rfl rfl rfl ?_
      refine x_aload_n rfl rfl rfl ?_
      refine x_getR0 rfl rfl f_8_20 rfl (by decide) rfl rfl ?_
      refine x_aload rfl rfl rfl ?_
      refine x_callVi (d2 := 0) (c_chp10 hG (by omega) (by omega) dy hkd htr hdy) rfl rfl v_8_231 rfl rfl (by decide) rfl rfl (Nat.le_of_ble_eq_true rfl) (by omega) (by omega) ?_
      refine x_ifB_eq rfl rfl (fun hc4 => ?_) (fun hc4 => ?_)
      · refine x_iconstN (b := 0) rfl rfl ?_
        exact x_retZ rfl rfl rfl (by first | exact Or.inl rfl | exact Or.inr rfl) (by omega) (oB_f (by simp_all)) rfl
      · refine x_aload_n rfl rfl rfl ?_
        refine x_getR0 rfl rfl f_8_20 rfl (by decide) rfl rfl ?_
        refine x_aload rfl rfl rfl ?_
        refine x_lload_n rfl rfl rfl ?_
        refine x_callVi (d2 := 2) (c_isMember10 hG (Nat.le_refl 2) (by omega) (by omega) (e) hkd htr hm hm2) rfl rfl v_8_235 rfl rfl (by decide) rfl rfl (Nat.le_of_ble_eq_true rfl) (by omega) (by omega) ?_
        refine x_ifB_ne rfl rfl (fun hc5 => ?_) (fun hc5 => ?_)
        · refine x_iconstN (b := 0) rfl rfl ?_
          exact x_retZ rfl rfl rfl (by first | exact Or.inl rfl | exact Or.inr rfl) (by omega) (oB_f (by simp_all)) rfl
        · refine x_iconstN (b := 1) rfl rfl ?_
          refine x_goto rfl rfl ?_
          exact x_retZ rfl rfl rfl (by first | exact Or.inl rfl | exact Or.inr rfl) (by omega) (oB_t (by simp_all)) rfl
    · refine x_iconstN (b := 0) rfl rfl ?_
      exact x_retZ rfl rfl rfl (by first | exact Or.inl rfl | exact Or.inr rfl) (by omega) (oB_f (by simp_all)) rfl
set_option maxHeartbeats 4000000 in
set_option maxRecDepth 20000 in
theorem c_chkK (hG : Gok G) (hd : 1 ≤ d) (e : Int64) {n : Nat} (hn : M.1 (1, 0) 5 = nI n) (hn2 : n ≤ 40) {i : Nat} (hi : i < n) {kd : Nat} (hkd : M.1 (8, i) 3 = nI kd) (hkd2 : kd < 16) (h9 : kd ≠ 9) (h10 : kd ≠ 10) : Ct G mX8_canHaveKey d [.ref (ga G (0, 0)), .int (nI i), .long (e)] M (.inl (some (.int (nI 0)))) M 0 := by
  refine ct_of hG okX8_canHaveKey (by decide +kernel) rfl (Nat.le_of_ble_eq_true rfl) ?_
  refine x_aload_n rfl rfl rfl ?_
  refine x_getR0 rfl rfl f_8_20 rfl (by decide) rfl rfl ?_
  refine x_iload_n rfl rfl rfl ?_
  refine x_i2lN (a := i) (by omega) rfl rfl ?_
  refine x_callVi (d2 := 0) (c_isThing hG (lN (i)) hn hn2) rfl rfl v_8_210 rfl rfl (by decide) rfl rfl (Nat.le_of_ble_eq_true rfl) (by omega) (by omega) ?_
  refine x_ifB_eq rfl rfl (fun hc1 => absurd (inTh hi hn2) hc1) (fun hc1 => ?_)
  refine x_lload_n rfl rfl rfl ?_
  refine x_callSi (d2 := 0) (c_isText hG (e)) rfl rfl s_8_101 rfl rfl (Nat.le_of_ble_eq_true rfl) (by omega) (by omega) ?_
  refine x_ifB_eq rfl rfl (fun hc2 => ?_) (fun hc2 => ?_)
  · refine x_iconstN (b := 0) rfl rfl ?_
    exact x_retZ rfl rfl rfl (Or.inl rfl) (by omega) rfl rfl
  · refine x_lload_n rfl rfl rfl ?_
    refine x_lconst (v := 0) rfl rfl (by decide +kernel) ?_
    refine x_lc_ne rfl rfl rfl rfl (fun hc3 => ?_) (fun hc3 => ?_)
    · refine x_aload_n rfl rfl rfl ?_
      refine x_getR0 rfl rfl f_8_20 rfl (by decide) rfl rfl ?_
      refine x_getR0 rfl rfl f_8_79 rfl (by decide) rfl rfl ?_
      refine x_iload_n rfl rfl rfl ?_
      refine x_aaldi (a := i) rfl rfl rfl (by decide) (by decide) (by omega) (by decide) rfl ?_
      refine x_astore rfl rfl rfl rfl ?_
      refine x_aload_n rfl rfl rfl ?_
      refine x_getR0 rfl rfl f_8_20 rfl (by decide) rfl rfl ?_
      refine x_aload rfl rfl rfl ?_
      refine x_callVi (d2 := 0) (c_chpO hG (by omega) hkd2 hkd h9 h10) rfl rfl v_8_231 rfl rfl (by decide) rfl rfl (Nat.le_of_ble_eq_true rfl) (by omega) (by omega) ?_
      refine x_if_eq rfl rfl (fun _ => ?_) (fun hc4 => absurd hc4 (by decide +kernel))
      refine x_iconstN (b := 0) rfl rfl ?_
      exact x_retZ rfl rfl rfl (Or.inl rfl) (by omega) rfl rfl
    · refine x_iconstN (b := 0) rfl rfl ?_
      exact x_retZ rfl rfl rfl (Or.inl rfl) (by omega) rfl rfl
set_option maxHeartbeats 4000000 in
set_option maxRecDepth 20000 in
theorem c_chkT (hG : Gok G) (hd : 1 ≤ d) (e : Int64) {n : Nat} (hn : M.1 (1, 0) 5 = nI n) (hn2 : n ≤ 40) {th : Int32} (ho : ∀ i, i < n → th ≠ nI i) : Ct G mX8_canHaveKey d [.ref (ga G (0, 0)), .int (th), .long (e)] M (.inl (some (.int (nI 0)))) M 0 := by
  refine ct_of hG okX8_canHaveKey (by decide +kernel) rfl (Nat.le_of_ble_eq_true rfl) ?_
  refine x_aload_n rfl rfl rfl ?_
  refine x_getR0 rfl rfl f_8_20 rfl (by decide) rfl rfl ?_
  refine x_iload_n rfl rfl rfl ?_
  refine x_i2l rfl rfl ?_
  refine x_callVi (d2 := 0) (c_isThing hG ((th).toInt64) hn hn2) rfl rfl v_8_210 rfl rfl (by decide) rfl rfl (Nat.le_of_ble_eq_true rfl) (by omega) (by omega) ?_
  refine x_ifB_eq rfl rfl (fun hc1 => ?_) (fun hc1 => absurd hc1 (outTh ho hn2))
  refine x_iconstN (b := 0) rfl rfl ?_
  exact x_retZ rfl rfl rfl (by first | exact Or.inl rfl | exact Or.inr rfl) (by omega) rfl rfl
set_option maxHeartbeats 4000000 in
set_option maxRecDepth 20000 in
theorem c_put9R (hG : Gok G) (hd : 6 ≤ d) (e v : Int64) {n : Nat} (hn : M.1 (1, 0) 5 = nI n) (hn2 : n ≤ 40) {w : Nat} (hw : M.1 (1, 0) 3 = nI w) (hw2 : w ≤ 40) {i : Nat} (hi : i < n) (hkd : M.1 (8, i) 3 = nI 9) {kl : Nat} (hkl : M.1 (11, i) 1 = nI kl) (hvl : M.1 (13, i) 1 = nI kl) (hkl2 : kl ≤ 6) (hp : isTx e ∧ e ≠ 0) (hv : isV w n v) {j : Nat} (hf : fx (M.2 (12, i)) e 0 kl = some j) (hj : j < kl) : Ct G mX8_put d [.ref (ga G (0, 0)), .int (nI i), .long (e), .long (v)] M (.inl (some (.int (nI kl)))) (ul M (14, i) j v) 0 := by
  refine ct_of hG okX8_put (by decide +kernel) rfl (Nat.le_of_ble_eq_true rfl) ?_
  refine x_aload_n rfl rfl rfl ?_
  refine x_iload_n rfl rfl rfl ?_
  refine x_lload_n rfl rfl rfl ?_
  refine x_callVi (d2 := 3) (c_chk9 hG (by decide) (e) hn hn2 hi hkd) rfl rfl v_8_154 rfl rfl (by decide) rfl rfl (Nat.le_of_ble_eq_true rfl) (by omega) (by omega) ?_
  refine x_ifB_eq rfl rfl (fun hc1 => absurd hp hc1) (fun hc1 => ?_)
  refine x_aload_n rfl rfl rfl ?_
  refine x_getR0 rfl rfl f_8_20 rfl (by decide) rfl rfl ?_
  refine x_lload rfl rfl rfl ?_
  refine x_callVi (d2 := 1) (c_isValue hG (Nat.le_refl 1) (v) hn hn2 hw hw2) rfl rfl v_8_136 rfl rfl (by decide) rfl rfl (Nat.le_of_ble_eq_true rfl) (by omega) (by omega) ?_
  refine x_ifB_ne rfl rfl (fun hc2 => ?_) (fun hc2 => absurd hv hc2)
  refine x_aload_n rfl rfl rfl ?_
  refine x_getR0 rfl rfl f_8_20 rfl (by decide) rfl rfl ?_
  refine x_getR0 rfl rfl f_8_79 rfl (by decide) rfl rfl ?_
  refine x_iload_n rfl rfl rfl ?_
  refine x_aaldi (a := i) rfl rfl rfl (by decide) (by decide) (by omega) (by decide) rfl ?_
  refine x_astore rfl rfl rfl rfl ?_
  refine x_aload rfl rfl rfl ?_
  refine x_getRi rfl rfl f_8_158 rfl (by show _ < 40; omega) rfl rfl ?_
  refine x_lload_n rfl rfl rfl ?_
  refine x_callVi (d2 := 0) (c_LL_placeOf (len := kl) hG (lk_11 (by omega)) (e) hkl (by omega)) rfl rfl v_8_161 rfl rfl (by show _ < 40; omega) rfl rfl (Nat.le_of_ble_eq_true rfl) (by omega) (by omega) ?_
  refine x_topI (v := nI j) (by rw [hf]; rfl) ?_
  refine x_istore rfl rfl rfl rfl ?_
  refine x_iload rfl rfl rfl ?_
  refine x_iconst (v := -1) rfl rfl (by decide +kernel) ?_
  refine x_icmp_ne rfl rfl (fun hc3 => ?_) (fun hc3 => absurd hc3 (nIm1 (by omega)))
  refine x_iload rfl rfl rfl ?_
  refine x_iconst (v := -1) rfl rfl (by decide +kernel) ?_
  refine x_icmp_ne rfl rfl (fun hc4 => ?_) (fun hc4 => absurd hc4 (nIm1 (by omega)))
  refine x_aload rfl rfl rfl ?_
  refine x_getRi rfl rfl f_8_165 rfl (by show _ < 40; omega) rfl rfl ?_
  refine x_iload rfl rfl rfl ?_
  refine x_lload rfl rfl rfl ?_
  refine x_callVv (d2 := 0) (c_LL_replace (len := kl) hG (lk_13 (by omega)) (j) (v) hvl (by omega) (by omega)) rfl rfl v_8_150 rfl rfl (by show _ < 40; omega) rfl rfl (Nat.le_of_ble_eq_true rfl) (by omega) (by omega) ?_
  refine x_aload rfl rfl rfl ?_
  refine x_getRi rfl rfl f_8_158 rfl (by show _ < 40; omega) rfl rfl ?_
  refine x_getIv (v := nI kl) (by first | exact hkl | (rw [← hkl]; rfl) | simp [ui, ul, hkl]) rfl rfl f_8_143 rfl (by show _ < 40; omega) rfl ?_
  exact x_retI rfl rfl rfl (by omega) rfl rfl
set_option maxHeartbeats 4000000 in
set_option maxRecDepth 20000 in
theorem c_put9A (hG : Gok G) (hd : 6 ≤ d) (e v : Int64) {n : Nat} (hn : M.1 (1, 0) 5 = nI n) (hn2 : n ≤ 40) {w : Nat} (hw : M.1 (1, 0) 3 = nI w) (hw2 : w ≤ 40) {i : Nat} (hi : i < n) (hkd : M.1 (8, i) 3 = nI 9) {kl : Nat} (hkl : M.1 (11, i) 1 = nI kl) (hvl : M.1 (13, i) 1 = nI kl) (hkl2 : kl < 6) (hp : isTx e ∧ e ≠ 0) (hv : isV w n v) (hf : fx (M.2 (12, i)) e 0 kl = none) : Ct G mX8_put d [.ref (ga G (0, 0)), .int (nI i), .long (e), .long (v)] M (.inl (some (.int (nI (kl + 1))))) (ui (ul (ui (ul M (12, i) kl e) (11, i) 1 (nI (kl + 1))) (14, i) kl v) (13, i) 1 (nI (kl + 1))) 0 := by
  refine ct_of hG okX8_put (by decide +kernel) rfl (Nat.le_of_ble_eq_true rfl) ?_
  refine x_aload_n rfl rfl rfl ?_
  refine x_iload_n rfl rfl rfl ?_
  refine x_lload_n rfl rfl rfl ?_
  refine x_callVi (d2 := 3) (c_chk9 hG (by decide) (e) hn hn2 hi hkd) rfl rfl v_8_154 rfl rfl (by decide) rfl rfl (Nat.le_of_ble_eq_true rfl) (by omega) (by omega) ?_
  refine x_ifB_eq rfl rfl (fun hc1 => absurd hp hc1) (fun hc1 => ?_)
  refine x_aload_n rfl rfl rfl ?_
  refine x_getR0 rfl rfl f_8_20 rfl (by decide) rfl rfl ?_
  refine x_lload rfl rfl rfl ?_
  refine x_callVi (d2 := 1) (c_isValue hG (Nat.le_refl 1) (v) hn hn2 hw hw2) rfl rfl v_8_136 rfl rfl (by decide) rfl rfl (Nat.le_of_ble_eq_true rfl) (by omega) (by omega) ?_
  refine x_ifB_ne rfl rfl (fun hc2 => ?_) (fun hc2 => absurd hv hc2)
  refine x_aload_n rfl rfl rfl ?_
  refine x_getR0 rfl rfl f_8_20 rfl (by decide) rfl rfl ?_
  refine x_getR0 rfl rfl f_8_79 rfl (by decide) rfl rfl ?_
  refine x_iload_n rfl rfl rfl ?_
  refine x_aaldi (a := i) rfl rfl rfl (by decide) (by decide) (by omega) (by decide) rfl ?_
  refine x_astore rfl rfl rfl rfl ?_
  refine x_aload rfl rfl rfl ?_
  refine x_getRi rfl rfl f_8_158 rfl (by show _ < 40; omega) rfl rfl ?_
  refine x_lload_n rfl rfl rfl ?_
  refine x_callVi (d2 := 0) (c_LL_placeOf (len := kl) hG (lk_11 (by omega)) (e) hkl (by omega)) rfl rfl v_8_161 rfl rfl (by show _ < 40; omega) rfl rfl (Nat.le_of_ble_eq_true rfl) (by omega) (by omega) ?_
  refine x_topI (v := -1) (by rw [hf]; rfl) ?_
  refine x_istore rfl rfl rfl rfl ?_
  refine x_iload rfl rfl rfl ?_
  refine x_iconst (v := -1) rfl rfl (by decide +kernel) ?_
  refine x_icmp_ne rfl rfl (fun hc3 => absurd rfl hc3) (fun hc3 => ?_)
  refine x_aload rfl rfl rfl ?_
  refine x_getRi rfl rfl f_8_158 rfl (by show _ < 40; omega) rfl rfl ?_
  refine x_callVi (d2 := 0) (c_LL_isFull (len := kl) hG (lk_11 (by omega)) hkl (by omega)) rfl rfl v_8_139 rfl rfl (by show _ < 40; omega) rfl rfl (Nat.le_of_ble_eq_true rfl) (by omega) (by omega) ?_
  refine x_ifB_eq rfl rfl (fun hc4 => ?_) (fun hc4 => absurd hc4 (by omega))
  refine x_iload rfl rfl rfl ?_
  refine x_iconst (v := -1) rfl rfl (by decide +kernel) ?_
  refine x_icmp_ne rfl rfl (fun hc5 => absurd rfl hc5) (fun hc5 => ?_)
  refine x_aload rfl rfl rfl ?_
  refine x_getRi rfl rfl f_8_158 rfl (by show _ < 40; omega) rfl rfl ?_
  refine x_lload_n rfl rfl rfl ?_
  refine x_callVv (d2 := 0) (c_LL_add (len := kl) hG (lk_11 (by omega)) (e) hkl (by omega)) rfl rfl v_8_97 rfl rfl (by show _ < 40; omega) rfl rfl (Nat.le_of_ble_eq_true rfl) (by omega) (by omega) ?_
  refine x_aload rfl rfl rfl ?_
  refine x_getRi rfl rfl f_8_165 rfl (by show _ < 40; omega) rfl rfl ?_
  refine x_lload rfl rfl rfl ?_
  refine x_callVv (d2 := 0) (c_LL_add (len := kl) hG (lk_13 (by omega)) (v) (by first | exact hvl | (rw [← hvl]; rfl) | simp [ui, ul, hvl]) (by omega)) rfl rfl v_8_97 rfl rfl (by show _ < 40; omega) rfl rfl (Nat.le_of_ble_eq_true rfl) (by omega) (by omega) ?_
  refine x_goto rfl rfl ?_
  refine x_aload rfl rfl rfl ?_
  refine x_getRi rfl rfl f_8_158 rfl (by show _ < 40; omega) rfl rfl ?_
  refine x_getIv (v := nI (kl + 1)) (by first | rfl | simp [ui, ul]) rfl rfl f_8_143 rfl (by show _ < 40; omega) rfl ?_
  exact x_retI rfl rfl rfl (by omega) rfl rfl
set_option maxHeartbeats 4000000 in
set_option maxRecDepth 20000 in
theorem c_put9F (hG : Gok G) (hd : 6 ≤ d) (e v : Int64) {n : Nat} (hn : M.1 (1, 0) 5 = nI n) (hn2 : n ≤ 40) {w : Nat} (hw : M.1 (1, 0) 3 = nI w) (hw2 : w ≤ 40) {i : Nat} (hi : i < n) (hkd : M.1 (8, i) 3 = nI 9) (hkl : M.1 (11, i) 1 = nI 6) (hp : isTx e ∧ e ≠ 0) (hv : isV w n v) (hf : fx (M.2 (12, i)) e 0 6 = none) : Ct G mX8_put d [.ref (ga G (0, 0)), .int (nI i), .long (e), .long (v)] M (.inr "java/lang/IllegalStateException") M 1 := by
  refine ct_of hG okX8_put (by decide +kernel) rfl (Nat.le_of_ble_eq_true rfl) ?_
  refine x_aload_n rfl rfl rfl ?_
  refine x_iload_n rfl rfl rfl ?_
  refine x_lload_n rfl rfl rfl ?_
  refine x_callVi (d2 := 3) (c_chk9 hG (by decide) (e) hn hn2 hi hkd) rfl rfl v_8_154 rfl rfl (by decide) rfl rfl (Nat.le_of_ble_eq_true rfl) (by omega) (by omega) ?_
  refine x_ifB_eq rfl rfl (fun hc1 => absurd hp hc1) (fun hc1 => ?_)
  refine x_aload_n rfl rfl rfl ?_
  refine x_getR0 rfl rfl f_8_20 rfl (by decide) rfl rfl ?_
  refine x_lload rfl rfl rfl ?_
  refine x_callVi (d2 := 1) (c_isValue hG (Nat.le_refl 1) (v) hn hn2 hw hw2) rfl rfl v_8_136 rfl rfl (by decide) rfl rfl (Nat.le_of_ble_eq_true rfl) (by omega) (by omega) ?_
  refine x_ifB_ne rfl rfl (fun hc2 => ?_) (fun hc2 => absurd hv hc2)
  refine x_aload_n rfl rfl rfl ?_
  refine x_getR0 rfl rfl f_8_20 rfl (by decide) rfl rfl ?_
  refine x_getR0 rfl rfl f_8_79 rfl (by decide) rfl rfl ?_
  refine x_iload_n rfl rfl rfl ?_
  refine x_aaldi (a := i) rfl rfl rfl (by decide) (by decide) (by omega) (by decide) rfl ?_
  refine x_astore rfl rfl rfl rfl ?_
  refine x_aload rfl rfl rfl ?_
  refine x_getRi rfl rfl f_8_158 rfl (by show _ < 40; omega) rfl rfl ?_
  refine x_lload_n rfl rfl rfl ?_
  refine x_callVi (d2 := 0) (c_LL_placeOf (len := 6) hG (lk_11 (by omega)) (e) hkl (by omega)) rfl rfl v_8_161 rfl rfl (by show _ < 40; omega) rfl rfl (Nat.le_of_ble_eq_true rfl) (by omega) (by omega) ?_
  refine x_topI (v := -1) (by rw [hf]; rfl) ?_
  refine x_istore rfl rfl rfl rfl ?_
  refine x_iload rfl rfl rfl ?_
  refine x_iconst (v := -1) rfl rfl (by decide +kernel) ?_
  refine x_icmp_ne rfl rfl (fun hc3 => absurd rfl hc3) (fun hc3 => ?_)
  refine x_aload rfl rfl rfl ?_
  refine x_getRi rfl rfl f_8_158 rfl (by show _ < 40; omega) rfl rfl ?_
  refine x_callVi (d2 := 0) (c_LL_isFull (len := 6) hG (lk_11 (by omega)) hkl (by omega)) rfl rfl v_8_139 rfl rfl (by show _ < 40; omega) rfl rfl (Nat.le_of_ble_eq_true rfl) (by omega) (by omega) ?_
  refine x_ifB_eq rfl rfl (fun hc4 => absurd rfl hc4) (fun hc4 => ?_)
  exact x_throw rfl rfl rfl rfl rfl rfl rfl rfl th_8_61_63 (Nat.le_of_ble_eq_true rfl) (by omega) (by omega)
set_option maxHeartbeats 4000000 in
set_option maxRecDepth 20000 in
theorem c_put9V (hG : Gok G) (hd : 6 ≤ d) (e v : Int64) {n : Nat} (hn : M.1 (1, 0) 5 = nI n) (hn2 : n ≤ 40) {w : Nat} (hw : M.1 (1, 0) 3 = nI w) (hw2 : w ≤ 40) {i : Nat} (hi : i < n) (hkd : M.1 (8, i) 3 = nI 9) (hp : isTx e ∧ e ≠ 0) (hv : ¬ isV w n v) : Ct G mX8_put d [.ref (ga G (0, 0)), .int (nI i), .long (e), .long (v)] M (.inr "java/lang/IllegalArgumentException") M 1 := by
  refine ct_of hG okX8_put (by decide +kernel) rfl (Nat.le_of_ble_eq_true rfl) ?_
  refine x_aload_n rfl rfl rfl ?_
  refine x_iload_n rfl rfl rfl ?_
  refine x_lload_n rfl rfl rfl ?_
  refine x_callVi (d2 := 3) (c_chk9 hG (by decide) (e) hn hn2 hi hkd) rfl rfl v_8_154 rfl rfl (by decide) rfl rfl (Nat.le_of_ble_eq_true rfl) (by omega) (by omega) ?_
  refine x_ifB_eq rfl rfl (fun hc1 => absurd hp hc1) (fun hc1 => ?_)
  refine x_aload_n rfl rfl rfl ?_
  refine x_getR0 rfl rfl f_8_20 rfl (by decide) rfl rfl ?_
  refine x_lload rfl rfl rfl ?_
  refine x_callVi (d2 := 1) (c_isValue hG (Nat.le_refl 1) (v) hn hn2 hw hw2) rfl rfl v_8_136 rfl rfl (by decide) rfl rfl (Nat.le_of_ble_eq_true rfl) (by omega) (by omega) ?_
  refine x_ifB_ne rfl rfl (fun hc2 => absurd hc2 hv) (fun hc2 => ?_)
  exact x_throw rfl rfl rfl rfl rfl rfl rfl rfl th_8_89_91 (Nat.le_of_ble_eq_true rfl) (by omega) (by omega)
set_option maxHeartbeats 4000000 in
set_option maxRecDepth 20000 in
theorem c_put9K (hG : Gok G) (hd : 6 ≤ d) (e v : Int64) {n : Nat} (hn : M.1 (1, 0) 5 = nI n) (hn2 : n ≤ 40) {w : Nat} (hw : M.1 (1, 0) 3 = nI w) (hw2 : w ≤ 40) {i : Nat} (hi : i < n) (hkd : M.1 (8, i) 3 = nI 9) (hp : ¬ (isTx e ∧ e ≠ 0)) : Ct G mX8_put d [.ref (ga G (0, 0)), .int (nI i), .long (e), .long (v)] M (.inr "java/lang/IllegalArgumentException") M 1 := by
  refine ct_of hG okX8_put (by decide +kernel) rfl (Nat.le_of_ble_eq_true rfl) ?_
  refine x_aload_n rfl rfl rfl ?_
  refine x_iload_n rfl rfl rfl ?_
  refine x_lload_n rfl rfl rfl ?_
  refine x_callVi (d2 := 3) (c_chk9 hG (by decide) (e) hn hn2 hi hkd) rfl rfl v_8_154 rfl rfl (by decide) rfl rfl (Nat.le_of_ble_eq_true rfl) (by omega) (by omega) ?_
  refine x_ifB_eq rfl rfl (fun hc1 => ?_) (fun hc1 => absurd hc1 hp)
  exact x_throw rfl rfl rfl rfl rfl rfl rfl rfl th_8_89_91 (Nat.le_of_ble_eq_true rfl) (by omega) (by omega)
set_option maxHeartbeats 4000000 in
set_option maxRecDepth 20000 in
theorem c_put10R (hG : Gok G) (hd : 6 ≤ d) (e v : Int64) {n : Nat} (hn : M.1 (1, 0) 5 = nI n) (hn2 : n ≤ 40) {w : Nat} (hw : M.1 (1, 0) 3 = nI w) (hw2 : w ≤ 40) {i : Nat} (hi : i < n) (hkd : M.1 (8, i) 3 = nI 10) {t m : Nat} (ht : t < 13) (dy : Prop) (htr : M.1 (8, i) 4 = nI t) (hdy : M.1 (5, t) 2 = bI dy) (hm : M.1 (6, t) 1 = nI m) (hm2 : m ≤ 3) {kl : Nat} (hkl : M.1 (11, i) 1 = nI kl) (hvl : M.1 (13, i) 1 = nI kl) (hkl2 : kl ≤ 6) (hp : (isTx e ∧ e ≠ 0) ∧ dy ∧ fx (M.2 (7, t)) e 0 m = none) (hv : isV w n v) {j : Nat} (hf : fx (M.2 (12, i)) e 0 kl = some j) (hj : j < kl) : Ct G mX8_put d [.ref (ga G (0, 0)), .int (nI i), .long (e), .long (v)] M (.inl (some (.int (nI kl)))) (ul M (14, i) j v) 0 := by
  refine ct_of hG okX8_put (by decide +kernel) rfl (Nat.le_of_ble_eq_true rfl) ?_
  refine x_aload_n rfl rfl rfl ?_
  refine x_iload_n rfl rfl rfl ?_
  refine x_lload_n rfl rfl rfl ?_
  refine x_callVi (d2 := 3) (c_chk10 hG (by decide) (e) hn hn2 hi hkd ht dy htr hdy hm hm2) rfl rfl v_8_154 rfl rfl (by decide) rfl rfl (Nat.le_of_ble_eq_true rfl) (by omega) (by omega) ?_
  refine x_ifB_eq rfl rfl (fun hc1 => absurd hp hc1) (fun hc1 => ?_)
  refine x_aload_n rfl rfl rfl ?_
  refine x_getR0 rfl rfl f_8_20 rfl (by decide) rfl rfl ?_
  refine x_lload rfl rfl rfl ?_
  refine x_callVi (d2 := 1) (c_isValue hG (Nat.le_refl 1) (v) hn hn2 hw hw2) rfl rfl v_8_136 rfl rfl (by decide) rfl rfl (Nat.le_of_ble_eq_true rfl) (by omega) (by omega) ?_
  refine x_ifB_ne rfl rfl (fun hc2 => ?_) (fun hc2 => absurd hv hc2)
  refine x_aload_n rfl rfl rfl ?_
  refine x_getR0 rfl rfl f_8_20 rfl (by decide) rfl rfl ?_
  refine x_getR0 rfl rfl f_8_79 rfl (by decide) rfl rfl ?_
  refine x_iload_n rfl rfl rfl ?_
  refine x_aaldi (a := i) rfl rfl rfl (by decide) (by decide) (by omega) (by decide) rfl ?_
  refine x_astore rfl rfl rfl rfl ?_
  refine x_aload rfl rfl rfl ?_
  refine x_getRi rfl rfl f_8_158 rfl (by show _ < 40; omega) rfl rfl ?_
  refine x_lload_n rfl rfl rfl ?_
  refine x_callVi (d2 := 0) (c_LL_placeOf (len := kl) hG (lk_11 (by omega)) (e) hkl (by omega)) rfl rfl v_8_161 rfl rfl (by show _ < 40; omega) rfl rfl (Nat.le_of_ble_eq_true rfl) (by omega) (by omega) ?_
  refine x_topI (v := nI j) (by rw [hf]; rfl) ?_
  refine x_istore rfl rfl rfl rfl ?_
  refine x_iload rfl rfl rfl ?_
  refine x_iconst (v := -1) rfl rfl (by decide +kernel) ?_
  refine x_icmp_ne rfl rfl (fun hc3 => ?_) (fun hc3 => absurd hc3 (nIm1 (by omega)))
  refine x_iload rfl rfl rfl ?_
  refine x_iconst (v := -1) rfl rfl (by decide +kernel) ?_
  refine x_icmp_ne rfl rfl (fun hc4 => ?_) (fun hc4 => absurd hc4 (nIm1 (by omega)))
  refine x_aload rfl rfl rfl ?_
  refine x_getRi rfl rfl f_8_165 rfl (by show _ < 40; omega) rfl rfl ?_
  refine x_iload rfl rfl rfl ?_
  refine x_lload rfl rfl rfl ?_
  refine x_callVv (d2 := 0) (c_LL_replace (len := kl) hG (lk_13 (by omega)) (j) (v) hvl (by omega) (by omega)) rfl rfl v_8_150 rfl rfl (by show _ < 40; omega) rfl rfl (Nat.le_of_ble_eq_true rfl) (by omega) (by omega) ?_
  refine x_aload rfl rfl rfl ?_
  refine x_getRi rfl rfl f_8_158 rfl (by show _ < 40; omega) rfl rfl ?_
  refine x_getIv (v := nI kl) (by first | exact hkl | (rw [← hkl]; rfl) | simp [ui, ul, hkl]) rfl rfl f_8_143 rfl (by show _ < 40; omega) rfl ?_
  exact x_retI rfl rfl rfl (by omega) rfl rfl
set_option maxHeartbeats 4000000 in
set_option maxRecDepth 20000 in
theorem c_put10A (hG : Gok G) (hd : 6 ≤ d) (e v : Int64) {n : Nat} (hn : M.1 (1, 0) 5 = nI n) (hn2 : n ≤ 40) {w : Nat} (hw : M.1 (1, 0) 3 = nI w) (hw2 : w ≤ 40) {i : Nat} (hi : i < n) (hkd : M.1 (8, i) 3 = nI 10) {t m : Nat} (ht : t < 13) (dy : Prop) (htr : M.1 (8, i) 4 = nI t) (hdy : M.1 (5, t) 2 = bI dy) (hm : M.1 (6, t) 1 = nI m) (hm2 : m ≤ 3) {kl : Nat} (hkl : M.1 (11, i) 1 = nI kl) (hvl : M.1 (13, i) 1 = nI kl) (hkl2 : kl < 6) (hp : (isTx e ∧ e ≠ 0) ∧ dy ∧ fx (M.2 (7, t)) e 0 m = none) (hv : isV w n v) (hf : fx (M.2 (12, i)) e 0 kl = none) : Ct G mX8_put d [.ref (ga G (0, 0)), .int (nI i), .long (e), .long (v)] M (.inl (some (.int (nI (kl + 1))))) (ui (ul (ui (ul M (12, i) kl e) (11, i) 1 (nI (kl + 1))) (14, i) kl v) (13, i) 1 (nI (kl + 1))) 0 := by
  refine ct_of hG okX8_put (by decide +kernel) rfl (Nat.le_of_ble_eq_true rfl) ?_
  refine x_aload_n rfl rfl rfl ?_
  refine x_iload_n rfl rfl rfl ?_
  refine x_lload_n rfl rfl rfl ?_
  refine x_callVi (d2 := 3) (c_chk10 hG (by decide) (e) hn hn2 hi hkd ht dy htr hdy hm hm2) rfl rfl v_8_154 rfl rfl (by decide) rfl rfl (Nat.le_of_ble_eq_true rfl) (by omega) (by omega) ?_
  refine x_ifB_eq rfl rfl (fun hc1 => absurd hp hc1) (fun hc1 => ?_)
  refine x_aload_n rfl rfl rfl ?_
  refine x_getR0 rfl rfl f_8_20 rfl (by decide) rfl rfl ?_
  refine x_lload rfl rfl rfl ?_
  refine x_callVi (d2 := 1) (c_isValue hG (Nat.le_refl 1) (v) hn hn2 hw hw2) rfl rfl v_8_136 rfl rfl (by decide) rfl rfl (Nat.le_of_ble_eq_true rfl) (by omega) (by omega) ?_
  refine x_ifB_ne rfl rfl (fun hc2 => ?_) (fun hc2 => absurd hv hc2)
  refine x_aload_n rfl rfl rfl ?_
  refine x_getR0 rfl rfl f_8_20 rfl (by decide) rfl rfl ?_
  refine x_getR0 rfl rfl f_8_79 rfl (by decide) rfl rfl ?_
  refine x_iload_n rfl rfl rfl ?_
  refine x_aaldi (a := i) rfl rfl rfl (by decide) (by decide) (by omega) (by decide) rfl ?_
  refine x_astore rfl rfl rfl rfl ?_
  refine x_aload rfl rfl rfl ?_
  refine x_getRi rfl rfl f_8_158 rfl (by show _ < 40; omega) rfl rfl ?_
  refine x_lload_n rfl rfl rfl ?_
  refine x_callVi (d2 := 0) (c_LL_placeOf (len := kl) hG (lk_11 (by omega)) (e) hkl (by omega)) rfl rfl v_8_161 rfl rfl (by show _ < 40; omega) rfl rfl (Nat.le_of_ble_eq_true rfl) (by omega) (by omega) ?_
  refine x_topI (v := -1) (by rw [hf]; rfl) ?_
  refine x_istore rfl rfl rfl rfl ?_
  refine x_iload rfl rfl rfl ?_
  refine x_iconst (v := -1) rfl rfl (by decide +kernel) ?_
  refine x_icmp_ne rfl rfl (fun hc3 => absurd rfl hc3) (fun hc3 => ?_)
  refine x_aload rfl rfl rfl ?_
  refine x_getRi rfl rfl f_8_158 rfl (by show _ < 40; omega) rfl rfl ?_
  refine x_callVi (d2 := 0) (c_LL_isFull (len := kl) hG (lk_11 (by omega)) hkl (by omega)) rfl rfl v_8_139 rfl rfl (by show _ < 40; omega) rfl rfl (Nat.le_of_ble_eq_true rfl) (by omega) (by omega) ?_
  refine x_ifB_eq rfl rfl (fun hc4 => ?_) (fun hc4 => absurd hc4 (by omega))
  refine x_iload rfl rfl rfl ?_
  refine x_iconst (v := -1) rfl rfl (by decide +kernel) ?_
  refine x_icmp_ne rfl rfl (fun hc5 => absurd rfl hc5) (fun hc5 => ?_)
  refine x_aload rfl rfl rfl ?_
  refine x_getRi rfl rfl f_8_158 rfl (by show _ < 40; omega) rfl rfl ?_
  refine x_lload_n rfl rfl rfl ?_
  refine x_callVv (d2 := 0) (c_LL_add (len := kl) hG (lk_11 (by omega)) (e) hkl (by omega)) rfl rfl v_8_97 rfl rfl (by show _ < 40; omega) rfl rfl (Nat.le_of_ble_eq_true rfl) (by omega) (by omega) ?_
  refine x_aload rfl rfl rfl ?_
  refine x_getRi rfl rfl f_8_165 rfl (by show _ < 40; omega) rfl rfl ?_
  refine x_lload rfl rfl rfl ?_
  refine x_callVv (d2 := 0) (c_LL_add (len := kl) hG (lk_13 (by omega)) (v) (by first | exact hvl | (rw [← hvl]; rfl) | simp [ui, ul, hvl]) (by omega)) rfl rfl v_8_97 rfl rfl (by show _ < 40; omega) rfl rfl (Nat.le_of_ble_eq_true rfl) (by omega) (by omega) ?_
  refine x_goto rfl rfl ?_
  refine x_aload rfl rfl rfl ?_
  refine x_getRi rfl rfl f_8_158 rfl (by show _ < 40; omega) rfl rfl ?_
  refine x_getIv (v := nI (kl + 1)) (by first | rfl | simp [ui, ul]) rfl rfl f_8_143 rfl (by show _ < 40; omega) rfl ?_
  exact x_retI rfl rfl rfl (by omega) rfl rfl
set_option maxHeartbeats 4000000 in
set_option maxRecDepth 20000 in
theorem c_put10F (hG : Gok G) (hd : 6 ≤ d) (e v : Int64) {n : Nat} (hn : M.1 (1, 0) 5 = nI n) (hn2 : n ≤ 40) {w : Nat} (hw : M.1 (1, 0) 3 = nI w) (hw2 : w ≤ 40) {i : Nat} (hi : i < n) (hkd : M.1 (8, i) 3 = nI 10) {t m : Nat} (ht : t < 13) (dy : Prop) (htr : M.1 (8, i) 4 = nI t) (hdy : M.1 (5, t) 2 = bI dy) (hm : M.1 (6, t) 1 = nI m) (hm2 : m ≤ 3) (hkl : M.1 (11, i) 1 = nI 6) (hp : (isTx e ∧ e ≠ 0) ∧ dy ∧ fx (M.2 (7, t)) e 0 m = none) (hv : isV w n v) (hf : fx (M.2 (12, i)) e 0 6 = none) : Ct G mX8_put d [.ref (ga G (0, 0)), .int (nI i), .long (e), .long (v)] M (.inr "java/lang/IllegalStateException") M 1 := by
  refine ct_of hG okX8_put (by decide +kernel) rfl (Nat.le_of_ble_eq_true rfl) ?_
  refine x_aload_n rfl rfl rfl ?_
  refine x_iload_n rfl rfl rfl ?_
  refine x_lload_n rfl rfl rfl ?_
  refine x_callVi (d2 := 3) (c_chk10 hG (by decide) (e) hn hn2 hi hkd ht dy htr hdy hm hm2) rfl rfl v_8_154 rfl rfl (by decide) rfl rfl (Nat.le_of_ble_eq_true rfl) (by omega) (by omega) ?_
  refine x_ifB_eq rfl rfl (fun hc1 => absurd hp hc1) (fun hc1 => ?_)
  refine x_aload_n rfl rfl rfl ?_
  refine x_getR0 rfl rfl f_8_20 rfl (by decide) rfl rfl ?_
  refine x_lload rfl rfl rfl ?_
  refine x_callVi (d2 := 1) (c_isValue hG (Nat.le_refl 1) (v) hn hn2 hw hw2) rfl rfl v_8_136 rfl rfl (by decide) rfl rfl (Nat.le_of_ble_eq_true rfl) (by omega) (by omega) ?_
  refine x_ifB_ne rfl rfl (fun hc2 => ?_) (fun hc2 => absurd hv hc2)
  refine x_aload_n rfl rfl rfl ?_
  refine x_getR0 rfl rfl f_8_20 rfl (by decide) rfl rfl ?_
  refine x_getR0 rfl rfl f_8_79 rfl (by decide) rfl rfl ?_
  refine x_iload_n rfl rfl rfl ?_
  refine x_aaldi (a := i) rfl rfl rfl (by decide) (by decide) (by omega) (by decide) rfl ?_
  refine x_astore rfl rfl rfl rfl ?_
  refine x_aload rfl rfl rfl ?_
  refine x_getRi rfl rfl f_8_158 rfl (by show _ < 40; omega) rfl rfl ?_
  refine x_lload_n rfl rfl rfl ?_
  refine x_callVi (d2 := 0) (c_LL_placeOf (len := 6) hG (lk_11 (by omega)) (e) hkl (by omega)) rfl rfl v_8_161 rfl rfl (by show _ < 40; omega) rfl rfl (Nat.le_of_ble_eq_true rfl) (by omega) (by omega) ?_
  refine x_topI (v := -1) (by rw [hf]; rfl) ?_
  refine x_istore rfl rfl rfl rfl ?_
  refine x_iload rfl rfl rfl ?_
  refine x_iconst (v := -1) rfl rfl (by decide +kernel) ?_
  refine x_icmp_ne rfl rfl (fun hc3 => absurd rfl hc3) (fun hc3 => ?_)
  refine x_aload rfl rfl rfl ?_
  refine x_getRi rfl rfl f_8_158 rfl (by show _ < 40; omega) rfl rfl ?_
  refine x_callVi (d2 := 0) (c_LL_isFull (len := 6) hG (lk_11 (by omega)) hkl (by omega)) rfl rfl v_8_139 rfl rfl (by show _ < 40; omega) rfl rfl (Nat.le_of_ble_eq_true rfl) (by omega) (by omega) ?_
  refine x_ifB_eq rfl rfl (fun hc4 => absurd rfl hc4) (fun hc4 => ?_)
  exact x_throw rfl rfl rfl rfl rfl rfl rfl rfl th_8_61_63 (Nat.le_of_ble_eq_true rfl) (by omega) (by omega)
set_option maxHeartbeats 4000000 in
set_option maxRecDepth 20000 in
theorem c_put10V (hG : Gok G) (hd : 6 ≤ d) (e v : Int64) {n : Nat} (hn : M.1 (1, 0) 5 = nI n) (hn2 : n ≤ 40) {w : Nat} (hw : M.1 (1, 0) 3 = nI w) (hw2 : w ≤ 40) {i : Nat} (hi : i < n) (hkd : M.1 (8, i) 3 = nI 10) {t m : Nat} (ht : t < 13) (dy : Prop) (htr : M.1 (8, i) 4 = nI t) (hdy : M.1 (5, t) 2 = bI dy) (hm : M.1 (6, t) 1 = nI m) (hm2 : m ≤ 3) (hp : (isTx e ∧ e ≠ 0) ∧ dy ∧ fx (M.2 (7, t)) e 0 m = none) (hv : ¬ isV w n v) : Ct G mX8_put d [.ref (ga G (0, 0)), .int (nI i), .long (e), .long (v)] M (.inr "java/lang/IllegalArgumentException") M 1 := by
  refine ct_of hG okX8_put (by decide +kernel) rfl (Nat.le_of_ble_eq_true rfl) ?_
  refine x_aload_n rfl rfl rfl ?_
  refine x_iload_n rfl rfl rfl ?_
  refine x_lload_n rfl rfl rfl ?_
  refine x_callVi (d2 := 3) (c_chk10 hG (by decide) (e) hn hn2 hi hkd ht dy htr hdy hm hm2) rfl rfl v_8_154 rfl rfl (by decide) rfl rfl (Nat.le_of_ble_eq_true rfl) (by omega) (by omega) ?_
  refine x_ifB_eq rfl rfl (fun hc1 => absurd hp hc1) (fun hc1 => ?_)
  refine x_aload_n rfl rfl rfl ?_
  refine x_getR0 rfl rfl f_8_20 rfl (by decide) rfl rfl ?_
  refine x_lload rfl rfl rfl ?_
  refine x_callVi (d2 := 1) (c_isValue hG (Nat.le_refl 1) (v) hn hn2 hw hw2) rfl rfl v_8_136 rfl rfl (by decide) rfl rfl (Nat.le_of_ble_eq_true rfl) (by omega) (by omega) ?_
  refine x_ifB_ne rfl rfl (fun hc2 => absurd hc2 hv) (fun hc2 => ?_)
  exact x_throw rfl rfl rfl rfl rfl rfl rfl rfl th_8_89_91 (Nat.le_of_ble_eq_true rfl) (by omega) (by omega)
set_option maxHeartbeats 4000000 in
set_option maxRecDepth 20000 in
theorem c_put10K (hG : Gok G) (hd : 6 ≤ d) (e v : Int64) {n : Nat} (hn : M.1 (1, 0) 5 = nI n) (hn2 : n ≤ 40) {w : Nat} (hw : M.1 (1, 0) 3 = nI w) (hw2 : w ≤ 40) {i : Nat} (hi : i < n) (hkd : M.1 (8, i) 3 = nI 10) {t m : Nat} (ht : t < 13) (dy : Prop) (htr : M.1 (8, i) 4 = nI t) (hdy : M.1 (5, t) 2 = bI dy) (hm : M.1 (6, t) 1 = nI m) (hm2 : m ≤ 3) (hp : ¬ ((isTx e ∧ e ≠ 0) ∧ dy ∧ fx (M.2 (7, t)) e 0 m = none)) : Ct G mX8_put d [.ref (ga G (0, 0)), .int (nI i), .long (e), .long (v)] M (.inr "java/lang/IllegalArgumentException") M 1 := by
  refine ct_of hG okX8_put (by decide +kernel) rfl (Nat.le_of_ble_eq_true rfl) ?_
  refine x_aload_n rfl rfl rfl ?_
  refine x_iload_n rfl rfl rfl ?_
  refine x_lload_n rfl rfl rfl ?_
  refine x_callVi (d2 := 3) (c_chk10 hG (by decide) (e) hn hn2 hi hkd ht dy htr hdy hm hm2) rfl rfl v_8_154 rfl rfl (by decide) rfl rfl (Nat.le_of_ble_eq_true rfl) (by omega) (by omega) ?_
  refine x_ifB_eq rfl rfl (fun hc1 => ?_) (fun hc1 => absurd hc1 hp)
  exact x_throw rfl rfl rfl rfl rfl rfl rfl rfl th_8_89_91 (Nat.le_of_ble_eq_true rfl) (by omega) (by omega)
set_option maxHeartbeats 4000000 in
set_option maxRecDepth 20000 in
theorem c_putK (hG : Gok G) (hd : 6 ≤ d) (e v : Int64) {n : Nat} (hn : M.1 (1, 0) 5 = nI n) (hn2 : n ≤ 40) {i : Nat} (hi : i < n) {kd : Nat} (hkd : M.1 (8, i) 3 = nI kd) (hkd2 : kd < 16) (h9 : kd ≠ 9) (h10 : kd ≠ 10) : Ct G mX8_put d [.ref (ga G (0, 0)), .int (nI i), .long (e), .long (v)] M (.inr "java/lang/IllegalArgumentException") M 1 := by
  refine ct_of hG okX8_put (by decide +kernel) rfl (Nat.le_of_ble_eq_true rfl) ?_
  refine x_aload_n rfl rfl rfl ?_
  refine x_iload_n rfl rfl rfl ?_
  refine x_lload_n rfl rfl rfl ?_
  refine x_callVi (d2 := 1) (c_chkK hG (by decide) (e) hn hn2 hi hkd hkd2 h9 h10) rfl rfl v_8_154 rfl rfl (by decide) rfl rfl (Nat.le_of_ble_eq_true rfl) (by omega) (by omega) ?_
  refine x_if_eq rfl rfl (fun _ => ?_) (fun hc1 => absurd hc1 (by decide +kernel))
  exact x_throw rfl rfl rfl rfl rfl rfl rfl rfl th_8_89_91 (Nat.le_of_ble_eq_true rfl) (by omega) (by omega)
set_option maxHeartbeats 4000000 in
set_option maxRecDepth 20000 in
theorem c_putT (hG : Gok G) (hd : 6 ≤ d) (e v : Int64) {n : Nat} (hn : M.1 (1, 0) 5 = nI n) (hn2 : n ≤ 40) {th : Int32} (ho : ∀ i, i < n → th ≠ nI i) : Ct G mX8_put d [.ref (ga G (0, 0)), .int (th), .long (e), .long (v)] M (.inr "java/lang/IllegalArgumentException") M 1 := by
  refine ct_of hG okX8_put (by decide +kernel) rfl (Nat.le_of_ble_eq_true rfl) ?_
  refine x_aload_n rfl rfl rfl ?_
  refine x_iload_n rfl rfl rfl ?_
  refine x_lload_n rfl rfl rfl ?_
  refine x_callVi (d2 := 1) (c_chkT hG (by decide) (e) hn hn2 ho) rfl rfl v_8_154 rfl rfl (by decide) rfl rfl (Nat.le_of_ble_eq_true rfl) (by omega) (by omega) ?_
  refine x_if_eq rfl rfl (fun _ => ?_) (fun hc1 => absurd hc1 (by decide +kernel))
  exact x_throw rfl rfl rfl rfl rfl rfl rfl rfl th_8_89_91 (Nat.le_of_ble_eq_true rfl) (by omega) (by omega)
set_option maxHeartbeats 4000000 in
set_option maxRecDepth 20000 in
theorem c_alter (hG : Gok G) (hd : 1 ≤ d) {rn : Nat} (hr : M.1 (15, 0) 1 = nI rn) (hr2 : rn ≤ 600) {j x : Nat} (hj : j ≤ rn) (hj6 : j < 600) (hx : x ≤ 255) : Ct G mX8_alter d [.ref (ga G (0, 0)), .int (nI j), .int (nI x)] M (.inl (some (.int (nI 1)))) (ui (ui M (16, 0) j (nI x)) (15, 0) 1 (nI (max rn (j + 1)))) 0 := by
  refine ct_of hG okX8_alter (by decide +kernel) rfl (Nat.le_of_ble_eq_true rfl) ?_
  refine x_iload_n rfl rfl rfl ?_
  refine x_ifN_lt (by omega) rfl rfl (fun hc1 => hc1.elim) (fun hc1 => ?_)
  refine x_iload_n rfl rfl rfl ?_
  refine x_aload_n rfl rfl rfl ?_
  refine x_getR0 rfl rfl f_8_24 rfl (by decide) rfl rfl ?_
  refine x_getIv (v := nI rn) hr rfl rfl f_8_186 rfl (by decide) rfl ?_
  refine x_icmpN_gt (by omega) (by omega) rfl rfl (fun hc2 => absurd hc2 (by omega)) (fun hc2 => ?_)
  refine x_iload_n rfl rfl rfl ?_
  refine x_sipush (v := nI 600) rfl rfl (by decide +kernel) ?_
  refine x_icmpN_eq (by omega) (by omega) rfl rfl (fun hc3 => absurd hc3 (by omega)) (fun hc3 => ?_)
  refine x_iload_n rfl rfl rfl ?_
  refine x_ifN_lt (by omega) rfl rfl (fun hc4 => hc4.elim) (fun hc4 => ?_)
  refine x_iload_n rfl rfl rfl ?_
  refine x_sipush (v := nI 255) rfl rfl (by decide +kernel) ?_
  refine x_icmpN_le (by omega) (by omega) rfl rfl (fun hc5 => ?_) (fun hc5 => absurd hc5 (by omega))
  refine x_aload_n rfl rfl rfl ?_
  refine x_getR0 rfl rfl f_8_24 rfl (by decide) rfl rfl ?_
  refine x_getR0 rfl rfl f_8_198 rfl (by decide) rfl rfl ?_
  refine x_iload_n rfl rfl rfl ?_
  refine x_iload_n rfl rfl rfl ?_
  refine x_iast (a := j) rfl rfl rfl (by decide) (by omega) (by decide) ?_
  refine x_aload_n rfl rfl rfl ?_
  refine x_getR0 rfl rfl f_8_24 rfl (by decide) rfl rfl ?_
  refine x_aload_n rfl rfl rfl ?_
  refine x_getR0 rfl rfl f_8_24 rfl (by decide) rfl rfl ?_
  refine x_getIv (v := nI rn) (by first | exact hr | (rw [← hr]; rfl) | simp [ui, ul, hr]) rfl rfl f_8_186 rfl (by decide) rfl ?_
  refine x_iload_n rfl rfl rfl ?_
  refine x_iconstN (b := 1) rfl rfl ?_
  refine x_iaddN (a := j) (b := 1) rfl rfl ?_
  refine x_maxN rfl (rn) (j + 1) (by omega) (by omega) rfl rfl (Nat.le_of_ble_eq_true rfl) (by omega) (by omega) ?_
  refine x_putI rfl rfl f_8_186 rfl rfl (by decide) rfl ?_
  refine x_iconstN (b := 1) rfl rfl ?_
  exact x_retZ rfl rfl rfl (by first | exact Or.inl rfl | exact Or.inr rfl) (by omega) rfl rfl
set_option maxHeartbeats 4000000 in
set_option maxRecDepth 20000 in
theorem c_alterI (hG : Gok G) {i b : Int32} (hi : i < 0) : Ct G mX8_alter d [.ref (ga G (0, 0)), .int (i), .int (b)] M (.inl (some (.int (nI 0)))) M 0 := by
  refine ct_of hG okX8_alter (by decide +kernel) rfl (Nat.le_of_ble_eq_true rfl) ?_
  refine x_iload_n rfl rfl rfl ?_
  refine x_if_lt rfl rfl (fun hc1 => ?_) (fun hc1 => absurd hi hc1)
  refine x_iconstN (b := 0) rfl rfl ?_
  exact x_retZ rfl rfl rfl (by first | exact Or.inl rfl | exact Or.inr rfl) (by omega) rfl rfl
set_option maxHeartbeats 4000000 in
set_option maxRecDepth 20000 in
theorem c_alterO (hG : Gok G) {rn : Nat} (hr : M.1 (15, 0) 1 = nI rn) (hr2 : rn ≤ 600) {j : Nat} {b : Int32} (hj : rn < j) (hj2 : j < 2 ^ 31) : Ct G mX8_alter d [.ref (ga G (0, 0)), .int (nI j), .int (b)] M (.inl (some (.int (nI 0)))) M 0 := by
  refine ct_of hG okX8_alter (by decide +kernel) rfl (Nat.le_of_ble_eq_true rfl) ?_
  refine x_iload_n rfl rfl rfl ?_
  refine x_ifN_lt (by omega) rfl rfl (fun hc1 => hc1.elim) (fun hc1 => ?_)
  refine x_iload_n rfl rfl rfl ?_
  refine x_aload_n rfl rfl rfl ?_
  refine x_getR0 rfl rfl f_8_24 rfl (by decide) rfl rfl ?_
  refine x_getIv (v := nI rn) hr rfl rfl f_8_186 rfl (by decide) rfl ?_
  refine x_icmpN_gt (by omega) (by omega) rfl rfl (fun hc2 => ?_) (fun hc2 => absurd hc2 (by omega))
  refine x_iconstN (b := 0) rfl rfl ?_
  exact x_retZ rfl rfl rfl (by first | exact Or.inl rfl | exact Or.inr rfl) (by omega) rfl rfl
set_option maxHeartbeats 4000000 in
set_option maxRecDepth 20000 in
theorem c_alterF (hG : Gok G) {rn : Nat} (hr : M.1 (15, 0) 1 = nI rn) (hr2 : rn ≤ 600) {b : Int32} (hj : 600 ≤ rn) : Ct G mX8_alter d [.ref (ga G (0, 0)), .int (nI 600), .int (b)] M (.inl (some (.int (nI 0)))) M 0 := by
  refine ct_of hG okX8_alter (by decide +kernel) rfl (Nat.le_of_ble_eq_true rfl) ?_
  refine x_iload_n rfl rfl rfl ?_
  refine x_if_lt rfl rfl (fun hc1 => absurd hc1 (by decide +kernel)) (fun _ => ?_)
  refine x_iload_n rfl rfl rfl ?_
  refine x_aload_n rfl rfl rfl ?_
  refine x_getR0 rfl rfl f_8_24 rfl (by decide) rfl rfl ?_
  refine x_getIv (v := nI rn) hr rfl rfl f_8_186 rfl (by decide) rfl ?_
  refine x_icmpN_gt (by omega) (by omega) rfl rfl (fun hc2 => absurd hc2 (by omega)) (fun hc2 => ?_)
  refine x_iload_n rfl rfl rfl ?_
  refine x_sipush (v := nI 600) rfl rfl (by decide +kernel) ?_
  refine x_icmpN_eq (by omega) (by omega) rfl rfl (fun hc3 => ?_) (fun hc3 => absurd hc3 (by omega))
  refine x_iconstN (b := 0) rfl rfl ?_
  exact x_retZ rfl rfl rfl (by first | exact Or.inl rfl | exact Or.inr rfl) (by omega) rfl rfl
set_option maxHeartbeats 4000000 in
set_option maxRecDepth 20000 in
theorem c_alterB (hG : Gok G) {rn : Nat} (hr : M.1 (15, 0) 1 = nI rn) (hr2 : rn ≤ 600) {j : Nat} {b : Int32} (hj : j ≤ rn) (hj6 : j < 600) (hb : b < 0) : Ct G mX8_alter d [.ref (ga G (0, 0)), .int (nI j), .int (b)] M (.inl (some (.int (nI 0)))) M 0 := by
  refine ct_of hG okX8_alter (by decide +kernel) rfl (Nat.le_of_ble_eq_true rfl) ?_
  refine x_iload_n rfl rfl rfl ?_
  refine x_ifN_lt (by omega) rfl rfl (fun hc1 => hc1.elim) (fun hc1 => ?_)
  refine x_iload_n rfl rfl rfl ?_
  refine x_aload_n rfl rfl rfl ?_
  refine x_getR0 rfl rfl f_8_24 rfl (by decide) rfl rfl ?_
  refine x_getIv (v := nI rn) hr rfl rfl f_8_186 rfl (by decide) rfl ?_
  refine x_icmpN_gt (by omega) (by omega) rfl rfl (fun hc2 => absurd hc2 (by omega)) (fun hc2 => ?_)
  refine x_iload_n rfl rfl rfl ?_
  refine x_sipush (v := nI 600) rfl rfl (by decide +kernel) ?_
  refine x_icmpN_eq (by omega) (by omega) rfl rfl (fun hc3 => absurd hc3 (by omega)) (fun hc3 => ?_)
  refine x_iload_n rfl rfl rfl ?_
  refine x_if_lt rfl rfl (fun hc4 => ?_) (fun hc4 => absurd hb hc4)
  refine x_iconstN (b := 0) rfl rfl ?_
  exact x_retZ rfl rfl rfl (by first | exact Or.inl rfl | exact Or.inr rfl) (by omega) rfl rfl
set_option maxHeartbeats 4000000 in
set_option maxRecDepth 20000 in
theorem c_alterC (hG : Gok G) {rn : Nat} (hr : M.1 (15, 0) 1 = nI rn) (hr2 : rn ≤ 600) {j x : Nat} (hj : j ≤ rn) (hj6 : j < 600) (hx : 255 < x) (hx2 : x < 2 ^ 31) : Ct G mX8_alter d [.ref (ga G (0, 0)), .int (nI j), .int (nI x)] M (.inl (some (.int (nI 0)))) M 0 := by
  refine ct_of hG okX8_alter (by decide +kernel) rfl (Nat.le_of_ble_eq_true rfl) ?_
  refine x_iload_n rfl rfl rfl ?_
  refine x_ifN_lt (by omega) rfl rfl (fun hc1 => hc1.elim) (fun hc1 => ?_)
  refine x_iload_n rfl rfl rfl ?_
  refine x_aload_n rfl rfl rfl ?_
  refine x_getR0 rfl rfl f_8_24 rfl (by decide) rfl rfl ?_
  refine x_getIv (v := nI rn) hr rfl rfl f_8_186 rfl (by decide) rfl ?_
  refine x_icmpN_gt (by omega) (by omega) rfl rfl (fun hc2 => absurd hc2 (by omega)) (fun hc2 => ?_)
  refine x_iload_n rfl rfl rfl ?_
  refine x_sipush (v := nI 600) rfl rfl (by decide +kernel) ?_
  refine x_icmpN_eq (by omega) (by omega) rfl rfl (fun hc3 => absurd hc3 (by omega)) (fun hc3 => ?_)
  refine x_iload_n rfl rfl rfl ?_
  refine x_ifN_lt (by omega) rfl rfl (fun hc4 => hc4.elim) (fun hc4 => ?_)
  refine x_iload_n rfl rfl rfl ?_
  refine x_sipush (v := nI 255) rfl rfl (by decide +kernel) ?_
  refine x_icmpN_le (by omega) (by omega) rfl rfl (fun hc5 => absurd hc5 (by omega)) (fun hc5 => ?_)
  refine x_iconstN (b := 0) rfl rfl ?_
  exact x_retZ rfl rfl rfl (by first | exact Or.inl rfl | exact Or.inr rfl) (by omega) rfl rfl
end C7
end
section
/-- the least i of i .. i + n with nothing from byte i on -/
def nl (u : Nat) : Nat → Nat → Nat
  | i, 0 => i
  | i, n + 1 => if u / 2 ^ (8 * i) = 0 then i else nl u (i + 1) n
theorem nl_s (u i n : Nat) : nl u i (n + 1) = if u / 2 ^ (8 * i) = 0 then i else nl u (i + 1) n := rfl
theorem nl_le (u : Nat) : ∀ n i, i ≤ nl u i n ∧ nl u i n ≤ i + n
  | 0, i => ⟨Nat.le_refl _, Nat.le_refl _⟩
  | n + 1, i => by
    have := nl_le u n (i + 1)
    rw [nl_s]
    split <;> omega
/-- a letter of a text -/
def okL (u k : Nat) : Prop := 1 ≤ u / 2 ^ (8 * k) % 256 ∧ u / 2 ^ (8 * k) % 256 ≤ 126
theorem div_step (u i : Nat) : u / 2 ^ (8 * i) / 256 = u / 2 ^ (8 * (i + 1)) := by
  rw [Nat.div_div_eq_div_mul, show 2 ^ (8 * (i + 1)) = 2 ^ (8 * i) * 256 by rw [show 8 * (i + 1) = 8 * i + 8 by omega, Nat.pow_add]]
theorem nl_tx (u : Nat) : ∀ n i, (nl u i (n + 1) < i + n + 1 ∧ ∀ k, i ≤ k → k < nl u i (n + 1) → okL u k) ↔ txN n (u / 2 ^ (8 * i))
  | 0, i => by
    rw [nl_s]
    show _ ↔ u / 2 ^ (8 * i) = 0
    by_cases h : u / 2 ^ (8 * i) = 0
    · rw [if_pos h]
      exact ⟨fun _ => h, fun _ => ⟨by omega, fun k h1 h2 => by omega⟩⟩
    · rw [if_neg h]
      exact ⟨fun z => absurd z.1 (by show ¬ i + 1 < _; omega), fun z => absurd z h⟩
  | n + 1, i => by
    have ih := nl_tx u n (i + 1)
    rw [nl_s]
    show _ ↔ (u / 2 ^ (8 * i) = 0 ∨ ((u / 2 ^ (8 * i) % 256 ≠ 0 ∧ u / 2 ^ (8 * i) % 256 ≤ 126) ∧ txN n (u / 2 ^ (8 * i) / 256)))
    rw [div_step, ← ih]
    by_cases h : u / 2 ^ (8 * i) = 0
    · rw [if_pos h]
      exact ⟨fun _ => Or.inl h, fun _ => ⟨by omega, fun k h1 h2 => by omega⟩⟩
    · rw [if_neg h]
      have hb := nl_le u (n + 1) (i + 1)
      constructor
      · rintro ⟨z1, z2⟩
        have hi := z2 i (Nat.le_refl _) (by omega)
        exact Or.inr ⟨⟨by unfold okL at hi; omega, hi.2⟩, by omega, fun k h1 h2 => z2 k (by omega) h2⟩
      · rintro (z | ⟨⟨z1, z2⟩, z3, z4⟩)
        · exact absurd z h
        · refine ⟨by omega, fun k h1 h2 => ?_⟩
          rcases Nat.lt_or_ge i k with q | q
          · exact z4 k (by omega) h2
          · rw [show k = i by omega]
            exact ⟨by omega, z2⟩
theorem isTx_iff (t : Int64) : (nl (uN t) 0 8 < 8 ∧ ∀ k, k < nl (uN t) 0 8 → okL (uN t) k) ↔ isTx t := by
  have h := nl_tx (uN t) 7 0
  rw [show uN t / 2 ^ (8 * 0) = uN t by simp] at h
  unfold isTx
  rw [← h]
  exact ⟨fun z => ⟨z.1, fun k _ h2 => z.2 k h2⟩, fun z => ⟨z.1, fun k h2 => z.2 k (Nat.zero_le _) h2⟩⟩
theorem txN_lt : ∀ n u, txN n u → u < 256 ^ n
  | 0, u, h => by have : u = 0 := h; omega
  | n + 1, u, h => by
    rcases h with h | ⟨-, h⟩
    · have : 0 < 256 ^ (n + 1) := Nat.pow_pos (by decide)
      omega
    · have := txN_lt n _ h
      rw [Nat.pow_succ]
      omega
theorem isTx_pos {t : Int64} (h : isTx t) : ¬ t < 0 := by
  have h1 := txN_lt 7 _ h
  have h2 : uN t < 9223372036854775808 := by
    have : (256 : Nat) ^ 7 = 72057594037927936 := by decide
    omega
  rw [lt_small h2 (by decide +kernel)]
  exact Nat.not_lt_zero _
theorem ub_1 (t : Int64) {k : Nat} (h : k < 8) : ¬ (((t.toUInt64 >>> ((nI (8 * k)).toInt64.toUInt64 &&& Int64.toUInt64 63)).toInt64 &&& 255) < 1) ↔ 1 ≤ uN t / 2 ^ (8 * k) % 256 := by
  rw [lt_small (by rw [uN_255]; omega) (by decide +kernel), uN_255, uN_sk t (by omega), show uN 1 = 1 from by decide +kernel]
  omega
theorem ub_126 (t : Int64) {k : Nat} (h : k < 8) : (((t.toUInt64 >>> ((nI (8 * k)).toInt64.toUInt64 &&& Int64.toUInt64 63)).toInt64 &&& 255) ≤ 126) ↔ uN t / 2 ^ (8 * k) % 256 ≤ 126 := by
  rw [le_small (by rw [uN_255]; omega) (by decide +kernel), uN_255, uN_sk t (by omega), show uN 126 = 126 from by decide +kernel]
theorem us_0 (t : Int64) {k : Nat} (h : k < 8) : (t.toUInt64 >>> ((nI (8 * k)).toInt64.toUInt64 &&& Int64.toUInt64 63)).toInt64 = 0 ↔ uN t / 2 ^ (8 * k) = 0 := by
  rw [uN_eq0, uN_sk t (by omega)]
section D1
variable {G : Gd} {d : Nat} {M : Mm}
theorem okL_step {Q : Prop} {u i m : Nat} (h : i < m) : (Q ∧ ∀ k, i ≤ k → k < m → okL u k) ↔ ((Q ∧ okL u i) ∧ ∀ k, i + 1 ≤ k → k < m → okL u k) :=
  ⟨fun z => ⟨⟨z.1, z.2 i (Nat.le_refl _) h⟩, fun k h1 h2 => z.2 k (by omega) h2⟩, fun z => ⟨z.1.1, fun k h1 h2 => by
    rcases Nat.lt_or_ge i k with q | q
    · exact z.2 k (by omega) h2
    · rw [show k = i by omega]; exact z.1.2⟩⟩
set_option maxHeartbeats 4000000 in
theorem l_letters (t : Int64) : ∀ (n i : Nat), i + n = 8 → Fr G mX9_letters d 0 (Zm G (.inl (some (.int (nI (nl (uN t) i n))))) M 0) 0 2 [(0, .long (t)), (2, .int (nI i))] [] M := by
  intro n
  induction n with
  | zero =>
    intro i hi
    refine x_iload_n rfl rfl rfl ?_
    refine x_bipush (v := nI 8) rfl rfl (by decide +kernel) ?_
    refine x_icmpN_ge (by omega) (by omega) rfl rfl (fun hc1 => ?_) (fun hc1 => absurd hc1 (by omega))
    refine x_iload_n rfl rfl rfl ?_
    exact x_retI rfl rfl rfl (by omega) rfl rfl
  | succ n ih =>
    intro i hi
    refine x_iload_n rfl rfl rfl ?_
    refine x_bipush (v := nI 8) rfl rfl (by decide +kernel) ?_
    refine x_icmpN_ge (by omega) (by omega) rfl rfl (fun hc1 => absurd hc1 (by omega)) (fun hc1 => ?_)
    refine x_lload_n rfl rfl rfl ?_
    refine x_bipush (v := nI 8) rfl rfl (by decide +kernel) ?_
    refine x_iload_n rfl rfl rfl ?_
    refine x_imulN (a := 8) (b := i) rfl rfl ?_
    refine x_lushr rfl rfl ?_
    refine x_lconst (v := 0) rfl rfl (by decide +kernel) ?_
    refine x_lc_eq rfl rfl rfl rfl (fun hc2 => ?_) (fun hc2 => ?_)
    · refine x_iload_n rfl rfl rfl ?_
      (rw [nl_s, if_pos ((us_0 t (by omega)).mp hc2)]; exact x_retI rfl rfl rfl (by omega) rfl rfl)
    · refine x_iincN (a := i) (b := 1) rfl rfl rfl rfl rfl ?_
      refine x_goto rfl rfl ?_
      (have hz := ih (i + 1) (by omega); rw [nl_s, if_neg (fun z => hc2 ((us_0 t (by omega)).mpr z))]; exact hz)
set_option maxHeartbeats 4000000 in
set_option maxRecDepth 20000 in
theorem c_letters (hG : Gok G) (t : Int64) : Ct G mX9_letters d [.long (t)] M (.inl (some (.int (nI (nl (uN t) 0 8))))) M 0 := by
  refine ct_of hG okX9_letters (by decide +kernel) rfl (Nat.le_of_ble_eq_true rfl) ?_
  refine x_iconstN (b := 0) rfl rfl ?_
  refine x_istore_n rfl rfl rfl rfl ?_
  exact l_letters t 8 0 (by omega)
set_option maxHeartbeats 4000000 in
theorem l_misText (t : Int64) (m : Nat) (hm : m ≤ 8) : ∀ (n i : Nat) (Q : Prop), i + n = m → Fr G mX9_isText d 0 (Zm G (.inl (some (.int (bI (Q ∧ ∀ k, i ≤ k → k < m → okL (uN t) k))))) M 0) 0 20 [(0, .long (t)), (2, .int (nI m)), (3, .int (bI (Q))), (4, .int (nI i))] [] M := by
  intro n
  induction n with
  | zero =>
    intro i Q hi
    refine x_iload rfl rfl rfl ?_
    refine x_iload_n rfl rfl rfl ?_
    refine x_icmpN_ge (by omega) (by omega) rfl rfl (fun hc1 => ?_) (fun hc1 => absurd hc1 (by omega))
    refine x_iload_n rfl rfl rfl ?_
    (rw [bI_iff (show (Q ∧ ∀ k, i ≤ k → k < m → okL (uN t) k) ↔ Q from ⟨fun z => z.1, fun z => ⟨z, fun k h1 h2 => by omega⟩⟩)]; exact x_retZ rfl rfl rfl (bI_01 _) (by omega) rfl rfl)
  | succ n ih =>
    intro i Q hi
    refine x_iload rfl rfl rfl ?_
    refine x_iload_n rfl rfl rfl ?_
    refine x_icmpN_ge (by omega) (by omega) rfl rfl (fun hc1 => absurd hc1 (by omega)) (fun hc1 => ?_)
    refine x_lload_n rfl rfl rfl ?_
    refine x_bipush (v := nI 8) rfl rfl (by decide +kernel) ?_
    refine x_iload rfl rfl rfl ?_
    refine x_imulN (a := 8) (b := i) rfl rfl ?_
    refine x_lushr rfl rfl ?_
    refine x_ldc2 (v := 255) rfl rfl k_9_104 ?_
    refine x_land rfl rfl ?_
    refine x_lstore rfl rfl rfl rfl ?_
    refine x_iload_n rfl rfl rfl ?_
    refine x_ifB_eq rfl rfl (fun hc2 => ?_) (fun hc2 => ?_)
    · refine x_iconstN (b := 0) rfl rfl ?_
      refine x_istore_n rfl rfl rfl rfl ?_
      refine x_iincN (a := i) (b := 1) rfl rfl rfl rfl rfl ?_
      refine x_goto rfl rfl ?_
      refine x_pick [0, 1, 2, 3] rfl ?_
      (rw [bI_iff (show (Q ∧ ∀ k, i ≤ k → k < m → okL (uN t) k) ↔ ((Q ∧ okL (uN t) i) ∧ ∀ k, i + 1 ≤ k → k < m → okL (uN t) k) from okL_step (by omega))]; exact x_eq (ih (i + 1) (Q ∧ okL (uN t) i) (by omega)) (by rw [bI_f (fun z => hc2 z.1)] <;> rfl) rfl rfl)
    · refine x_lload rfl rfl rfl ?_
      refine x_lconst (v := 1) rfl rfl (by decide +kernel) ?_
      refine x_lc_lt rfl rfl rfl rfl (fun hc3 => ?_) (fun hc3 => ?_)
      · refine x_iconstN (b := 0) rfl rfl ?_
        refine x_istore_n rfl rfl rfl rfl ?_
        refine x_iincN (a := i) (b := 1) rfl rfl rfl rfl rfl ?_
        refine x_goto rfl rfl ?_
        refine x_pick [0, 1, 2, 3] rfl ?_
        (rw [bI_iff (show (Q ∧ ∀ k, i ≤ k → k < m → okL (uN t) k) ↔ ((Q ∧ okL (uN t) i) ∧ ∀ k, i + 1 ≤ k → k < m → okL (uN t) k) from okL_step (by omega))]; exact x_eq (ih (i + 1) (Q ∧ okL (uN t) i) (by omega)) (by rw [bI_f (fun z => (ub_1 t (by omega)).mpr z.2.1 hc3)] <;> rfl) rfl rfl)
      · refine x_lload rfl rfl rfl ?_
        refine x_ldc2 (v := 126) rfl rfl k_9_106 ?_
        refine x_lc_gt rfl rfl rfl rfl (fun hc4 => ?_) (fun hc4 => ?_)
        · refine x_iconstN (b := 0) rfl rfl ?_
          refine x_istore_n rfl rfl rfl rfl ?_
          refine x_iincN (a := i) (b := 1) rfl rfl rfl rfl rfl ?_
          refine x_goto rfl rfl ?_
          refine x_pick [0, 1, 2, 3] rfl ?_
          (rw [bI_iff (show (Q ∧ ∀ k, i ≤ k → k < m → okL (uN t) k) ↔ ((Q ∧ okL (uN t) i) ∧ ∀ k, i + 1 ≤ k → k < m → okL (uN t) k) from okL_step (by omega))]; exact x_eq (ih (i + 1) (Q ∧ okL (uN t) i) (by omega)) (by rw [bI_f (fun z => hc4 ((ub_126 t (by omega)).mpr z.2.2))] <;> rfl) rfl rfl)
        · refine x_iconstN (b := 1) rfl rfl ?_
          refine x_goto rfl rfl ?_
          refine x_istore_n rfl rfl rfl rfl ?_
          refine x_iincN (a := i) (b := 1) rfl rfl rfl rfl rfl ?_
          refine x_goto rfl rfl ?_
          refine x_pick [0, 1, 2, 3] rfl ?_
          (rw [bI_iff (show (Q ∧ ∀ k, i ≤ k → k < m → okL (uN t) k) ↔ ((Q ∧ okL (uN t) i) ∧ ∀ k, i + 1 ≤ k → k < m → okL (uN t) k) from okL_step (by omega))]; exact x_eq (ih (i + 1) (Q ∧ okL (uN t) i) (by omega)) (by rw [bI_t ⟨hc2, (ub_1 t (by omega)).mp hc3, (ub_126 t (by omega)).mp hc4⟩] <;> rfl) rfl rfl)
set_option maxHeartbeats 4000000 in
set_option maxRecDepth 20000 in
theorem c_misText (hG : Gok G) (hd : 1 ≤ d) (t : Int64) : Ct G mX9_isText d [.long (t)] M (.inl (some (.int (bI (isTx t))))) M 0 := by
  have hb8 := nl_le (uN t) 8 0
  refine ct_of hG okX9_isText (by decide +kernel) rfl (Nat.le_of_ble_eq_true rfl) ?_
  refine x_lload_n rfl rfl rfl ?_
  refine x_callSi (d2 := 0) (c_letters hG (t)) rfl rfl s_9_100 rfl rfl (Nat.le_of_ble_eq_true rfl) (by omega) (by omega) ?_
  refine x_istore_n rfl rfl rfl rfl ?_
  refine x_iload_n rfl rfl rfl ?_
  refine x_bipush (v := nI 8) rfl rfl (by decide +kernel) ?_
  refine x_icmpN_ge (by omega) (by omega) rfl rfl (fun hc1 => ?_) (fun hc1 => ?_)
  · refine x_iconstN (b := 0) rfl rfl ?_
    refine x_istore_n rfl rfl rfl rfl ?_
    refine x_iconstN (b := 0) rfl rfl ?_
    refine x_istore rfl rfl rfl rfl ?_
    (have hz := l_misText (G := G) (d := d) (M := M) t (nl (uN t) 0 8) (by have := nl_le (uN t) 8 0; omega) (nl (uN t) 0 8) 0 (nl (uN t) 0 8 < 8) (by omega); rw [bI_iff (show isTx t ↔ (nl (uN t) 0 8 < 8 ∧ ∀ k, 0 ≤ k → k < nl (uN t) 0 8 → okL (uN t) k) from by rw [← isTx_iff]; simp)]; exact x_eq hz (by rw [bI_f (by omega)] <;> rfl) rfl rfl)
  · refine x_iconstN (b := 1) rfl rfl ?_
    refine x_goto rfl rfl ?_
    refine x_istore_n rfl rfl rfl rfl ?_
    refine x_iconstN (b := 0) rfl rfl ?_
    refine x_istore rfl rfl rfl rfl ?_
    (have hz := l_misText (G := G) (d := d) (M := M) t (nl (uN t) 0 8) (by have := nl_le (uN t) 8 0; omega) (nl (uN t) 0 8) 0 (nl (uN t) 0 8 < 8) (by omega); rw [bI_iff (show isTx t ↔ (nl (uN t) 0 8 < 8 ∧ ∀ k, 0 ≤ k → k < nl (uN t) 0 8 → okL (uN t) k) from by rw [← isTx_iff]; simp)]; exact x_eq hz (by rw [bI_t hc1] <;> rfl) rfl rfl)
end D1
end
section
section D2
variable {G : Gd} {d : Nat} {M : Mm}
theorem outI {th : Int32} {n : Nat} (h : ∀ i, i < n → th ≠ nI i) (hn : n ≤ 600) : ¬ (¬ th < 0 ∧ th < nI n) := by
  rintro ⟨h1, h2⟩
  obtain ⟨j, hj, rfl⟩ := nI_of h1
  exact h j ((nI_ltI hj (by omega)).mp h2) rfl
theorem isV_4m {w n : Nat} {v : Int64} (h : uN v % 16 = 4) : isV w n v ↔ (¬ sh4 v < -268435456 ∧ sh4 v ≤ 268435455) := by
  rw [isV_4 h]
  have : sh4 v < 268435456 ↔ sh4 v ≤ 268435455 := by
    rw [Int64.lt_iff_toInt_lt, Int64.le_iff_toInt_le]
    have h1 : (268435456 : Int64).toInt = 268435456 := by decide +kernel
    have h2 : (268435455 : Int64).toInt = 268435455 := by decide +kernel
    omega
  rw [this]
theorem isV_6m {w n : Nat} {v : Int64} (h : uN v % 16 = 6) : isV w n v ↔ (¬ sh4 v < 0 ∧ isTx (sh4 v)) := by
  rw [isV_6 h]
  exact ⟨fun z => ⟨isTx_pos z, z⟩, fun z => z.2⟩
theorem isV_Om {w n : Nat} {v : Int64} (h : uN v % 16 ≤ 3) : isV w n v ↔ sh4 v = 0 := by
  rw [isV_O (by omega) (by omega) (by omega) (by omega)]
  exact ⟨fun z => z.2, fun z => ⟨h, z⟩⟩
theorem isV_Nm {w n : Nat} {v : Int64} (h : 8 ≤ uN v % 16) : ¬ isV w n v := by
  rw [isV_O (by omega) (by omega) (by omega) (by omega)]
  omega
set_option maxHeartbeats 4000000 in
set_option maxRecDepth 20000 in
theorem c_misThing (hG : Gok G) {n : Nat} (hn : M.1 (40, 0) 8 = nI n) (hn2 : n ≤ 40) {i : Nat} (hi : i < n) : Ct G mX9_isThing d [.ref (ga G (40, 0)), .int (nI i)] M (.inl (some (.int (nI 1)))) M 0 := by
  refine ct_of hG okX9_isThing (by decide +kernel) rfl (Nat.le_of_ble_eq_true rfl) ?_
  refine x_iload_n rfl rfl rfl ?_
  refine x_ifN_lt (by omega) rfl rfl (fun hc1 => hc1.elim) (fun hc1 => ?_)
  refine x_iload_n rfl rfl rfl ?_
  refine x_aload_n rfl rfl rfl ?_
  refine x_getIv (v := nI n) hn rfl rfl f_9_121 rfl (by decide) rfl ?_
  refine x_icmpN_ge (by omega) (by omega) rfl rfl (fun hc2 => absurd hc2 (by omega)) (fun hc2 => ?_)
  refine x_iconstN (b := 1) rfl rfl ?_
  refine x_goto rfl rfl ?_
  exact x_retZ rfl rfl rfl (by first | exact Or.inl rfl | exact Or.inr rfl) (by omega) rfl rfl
set_option maxHeartbeats 4000000 in
set_option maxRecDepth 20000 in
theorem c_misThingO (hG : Gok G) {n : Nat} (hn : M.1 (40, 0) 8 = nI n) (hn2 : n ≤ 40) {th : Int32} (ho : ∀ i, i < n → th ≠ nI i) : Ct G mX9_isThing d [.ref (ga G (40, 0)), .int (th)] M (.inl (some (.int (nI 0)))) M 0 := by
  refine ct_of hG okX9_isThing (by decide +kernel) rfl (Nat.le_of_ble_eq_true rfl) ?_
  refine x_iload_n rfl rfl rfl ?_
  refine x_if_lt rfl rfl (fun hc1 => ?_) (fun hc1 => ?_)
  · refine x_iconstN (b := 0) rfl rfl ?_
    exact x_retZ rfl rfl rfl (Or.inl rfl) (by omega) rfl rfl
  · refine x_iload_n rfl rfl rfl ?_
    refine x_aload_n rfl rfl rfl ?_
    refine x_getIv (v := nI n) hn rfl rfl f_9_121 rfl (by decide) rfl ?_
    refine x_icmp_ge rfl rfl (fun hc2 => ?_) (fun hc2 => ?_)
    · refine x_iconstN (b := 0) rfl rfl ?_
      exact x_retZ rfl rfl rfl (Or.inl rfl) (by omega) rfl rfl
    · refine x_iconstN (b := 1) rfl rfl ?_
      refine x_goto rfl rfl ?_
      exact absurd ⟨hc1, Classical.byContradiction fun z => hc2 (Int32.not_lt.mp z)⟩ (outI ho (by omega))
set_option maxHeartbeats 4000000 in
set_option maxRecDepth 20000 in
theorem c_misValue (hG : Gok G) (hd : 2 ≤ d) (v : Int64) {n : Nat} (hn : M.1 (40, 0) 8 = nI n) (hn2 : n ≤ 40) {w : Nat} (hw : M.1 (40, 0) 1 = nI w) (hw2 : w ≤ 40) : Ct G mX9_isValue d [.ref (ga G (40, 0)), .long (v)] M (.inl (some (.int (bI (isV w n v))))) M 0 := by
  refine ct_of hG okX9_isValue (by decide +kernel) rfl (Nat.le_of_ble_eq_true rfl) ?_
  refine x_lload_n rfl rfl rfl ?_
  refine x_ldc2 (v := 15) rfl rfl k_9_108 ?_
  refine x_land rfl rfl ?_
  refine x_l2i rfl rfl ?_
  refine x_topI (v := nI (uN v % 16)) (kd_eq v) ?_
  refine x_istore_n rfl rfl rfl rfl ?_
  refine x_lload_n rfl rfl rfl ?_
  refine x_iconstN (b := 4) rfl rfl ?_
  refine x_lshr rfl rfl ?_
  refine x_topL (v := sh4 v) rfl ?_
  refine x_lstore rfl rfl rfl rfl ?_
  refine x_iload_n rfl rfl rfl ?_
  by_cases hs0 : uN v % 16 = 0
  · rw [hs0]
    refine x_swIn (off := 47) (tg := 60) rfl (by decide +kernel) (by decide +kernel) rfl (by decide) ?_
    refine x_lload rfl rfl rfl ?_
    refine x_lconst (v := 0) rfl rfl (by decide +kernel) ?_
    refine x_lc_ne rfl rfl rfl rfl (fun hc1 => ?_) (fun hc1 => ?_)
    · refine x_iconstN (b := 0) rfl rfl ?_
      (rw [bI_iff (isV_Om (by omega))]; exact x_retZ rfl rfl rfl (by first | exact Or.inl rfl | exact Or.inr rfl) (by omega) (oB_f hc1) rfl)
    · refine x_iconstN (b := 1) rfl rfl ?_
      refine x_goto rfl rfl ?_
      (rw [bI_iff (isV_Om (by omega))]; exact x_retZ rfl rfl rfl (by first | exact Or.inl rfl | exact Or.inr rfl) (by omega) (oB_t hc1) rfl)
  by_cases hs1 : uN v % 16 = 1
  · rw [hs1]
    refine x_swIn (off := 47) (tg := 60) rfl (by decide +kernel) (by decide +kernel) rfl (by decide) ?_
    refine x_lload rfl rfl rfl ?_
    refine x_lconst (v := 0) rfl rfl (by decide +kernel) ?_
    refine x_lc_ne rfl rfl rfl rfl (fun hc2 => ?_) (fun hc2 => ?_)
    · refine x_iconstN (b := 0) rfl rfl ?_
      (rw [bI_iff (isV_Om (by omega))]; exact x_retZ rfl rfl rfl (by first | exact Or.inl rfl | exact Or.inr rfl) (by omega) (oB_f hc2) rfl)
    · refine x_iconstN (b := 1) rfl rfl ?_
      refine x_goto rfl rfl ?_
      (rw [bI_iff (isV_Om (by omega))]; exact x_retZ rfl rfl rfl (by first | exact Or.inl rfl | exact Or.inr rfl) (by omega) (oB_t hc2) rfl)
  by_cases hs2 : uN v % 16 = 2
  · rw [hs2]
    refine x_swIn (off := 47) (tg := 60) rfl (by decide +kernel) (by decide +kernel) rfl (by decide) ?_
    refine x_lload rfl rfl rfl ?_
    refine x_lconst (v := 0) rfl rfl (by decide +kernel) ?_
    refine x_lc_ne rfl rfl rfl rfl (fun hc3 => ?_) (fun hc3 => ?_)
    · refine x_iconstN (b := 0) rfl rfl ?_
      (rw [bI_iff (isV_Om (by omega))]; exact x_retZ rfl rfl rfl (by first | exact Or.inl rfl | exact Or.inr rfl) (by omega) (oB_f hc3) rfl)
    · refine x_iconstN (b := 1) rfl rfl ?_
      refine x_goto rfl rfl ?_
      (rw [bI_iff (isV_Om (by omega))]; exact x_retZ rfl rfl rfl (by first | exact Or.inl rfl | exact Or.inr rfl) (by omega) (oB_t hc3) rfl)
  by_cases hs3 : uN v % 16 = 3
  · rw [hs3]
    refine x_swIn (off := 47) (tg := 60) rfl (by decide +kernel) (by decide +kernel) rfl (by decide) ?_
    refine x_lload rfl rfl rfl ?_
    refine x_lconst (v := 0) rfl rfl (by decide +kernel) ?_
    refine x_lc_ne rfl rfl rfl rfl (fun hc4 => ?_) (fun hc4 => ?_)
    · refine x_iconstN (b := 0) rfl rfl ?_
      (rw [bI_iff (isV_Om (by omega))]; exact x_retZ rfl rfl rfl (by first | exact Or.inl rfl | exact Or.inr rfl) (by omega) (oB_f hc4) rfl)
    · refine x_iconstN (b := 1) rfl rfl ?_
      refine x_goto rfl rfl ?_
      (rw [bI_iff (isV_Om (by omega))]; exact x_retZ rfl rfl rfl (by first | exact Or.inl rfl | exact Or.inr rfl) (by omega) (oB_t hc4) rfl)
  by_cases hs4 : uN v % 16 = 4
  · rw [hs4]
    refine x_swIn (off := 60) (tg := 73) rfl (by decide +kernel) (by decide +kernel) rfl (by decide) ?_
    refine x_lload rfl rfl rfl ?_
    refine x_ldc2 (v := -268435456) rfl rfl k_9_110 ?_
    refine x_lc_lt rfl rfl rfl rfl (fun hc5 => ?_) (fun hc5 => ?_)
    · refine x_iconstN (b := 0) rfl rfl ?_
      (rw [bI_iff (isV_4m hs4)]; exact x_retZ rfl rfl rfl (by first | exact Or.inl rfl | exact Or.inr rfl) (by omega) (oB_f (fun z => z.1 hc5)) rfl)
    · refine x_lload rfl rfl rfl ?_
      refine x_ldc2 (v := 268435455) rfl rfl k_9_112 ?_
      refine x_lc_gt rfl rfl rfl rfl (fun hc6 => ?_) (fun hc6 => ?_)
      · refine x_iconstN (b := 0) rfl rfl ?_
        (rw [bI_iff (isV_4m hs4)]; exact x_retZ rfl rfl rfl (by first | exact Or.inl rfl | exact Or.inr rfl) (by omega) (oB_f (fun z => hc6 z.2)) rfl)
      · refine x_iconstN (b := 1) rfl rfl ?_
        refine x_goto rfl rfl ?_
        (rw [bI_iff (isV_4m hs4)]; exact x_retZ rfl rfl rfl (by first | exact Or.inl rfl | exact Or.inr rfl) (by omega) (oB_t ⟨hc5, hc6⟩) rfl)
  by_cases hs5 : uN v % 16 = 5
  · rw [hs5]
    refine x_swIn (off := 84) (tg := 97) rfl (by decide +kernel) (by decide +kernel) rfl (by decide) ?_
    refine x_lload rfl rfl rfl ?_
    refine x_lconst (v := 0) rfl rfl (by decide +kernel) ?_
    refine x_lc_lt rfl rfl rfl rfl (fun hc7 => ?_) (fun hc7 => ?_)
    · refine x_iconstN (b := 0) rfl rfl ?_
      (rw [bI_iff (isV_5 hs5)]; exact x_retZ rfl rfl rfl (by first | exact Or.inl rfl | exact Or.inr rfl) (by omega) (oB_f (fun z => z.1 hc7)) rfl)
    · refine x_lload rfl rfl rfl ?_
      refine x_aload_n rfl rfl rfl ?_
      refine x_getIv (v := nI w) hw rfl rfl f_9_114 rfl (by decide) rfl ?_
      refine x_i2lN (a := w) (by omega) rfl rfl ?_
      refine x_lc_ge rfl rfl rfl rfl (fun hc8 => ?_) (fun hc8 => ?_)
      · refine x_iconstN (b := 0) rfl rfl ?_
        (rw [bI_iff (isV_5 hs5)]; exact x_retZ rfl rfl rfl (by first | exact Or.inl rfl | exact Or.inr rfl) (by omega) (oB_f (fun z => hc8 z.2)) rfl)
      · refine x_iconstN (b := 1) rfl rfl ?_
        refine x_goto rfl rfl ?_
        (rw [bI_iff (isV_5 hs5)]; exact x_retZ rfl rfl rfl (by first | exact Or.inl rfl | exact Or.inr rfl) (by omega) (oB_t ⟨hc7, hc8⟩) rfl)
  by_cases hs6 : uN v % 16 = 6
  · rw [hs6]
    refine x_swIn (off := 108) (tg := 121) rfl (by decide +kernel) (by decide +kernel) rfl (by decide) ?_
    refine x_lload rfl rfl rfl ?_
    refine x_lconst (v := 0) rfl rfl (by decide +kernel) ?_
    refine x_lc_lt rfl rfl rfl rfl (fun hc9 => ?_) (fun hc9 => ?_)
    · refine x_iconstN (b := 0) rfl rfl ?_
      (rw [bI_iff (isV_6m hs6)]; exact x_retZ rfl rfl rfl (by first | exact Or.inl rfl | exact Or.inr rfl) (by omega) (oB_f (fun z => z.1 hc9)) rfl)
    · refine x_lload rfl rfl rfl ?_
      refine x_callSi (d2 := 1) (c_misText hG (Nat.le_refl 1) (sh4 v)) rfl rfl s_9_117 rfl rfl (Nat.le_of_ble_eq_true rfl) (by omega) (by omega) ?_
      refine x_ifB_eq rfl rfl (fun hc10 => ?_) (fun hc10 => ?_)
      · refine x_iconstN (b := 0) rfl rfl ?_
        (rw [bI_iff (isV_6m hs6)]; exact x_retZ rfl rfl rfl (by first | exact Or.inl rfl | exact Or.inr rfl) (by omega) (oB_f (fun z => hc10 z.2)) rfl)
      · refine x_iconstN (b := 1) rfl rfl ?_
        refine x_goto rfl rfl ?_
        (rw [bI_iff (isV_6m hs6)]; exact x_retZ rfl rfl rfl (by first | exact Or.inl rfl | exact Or.inr rfl) (by omega) (oB_t ⟨hc9, hc10⟩) rfl)
  by_cases hs7 : uN v % 16 = 7
  · rw [hs7]
    refine x_swIn (off := 129) (tg := 142) rfl (by decide +kernel) (by decide +kernel) rfl (by decide) ?_
    refine x_lload rfl rfl rfl ?_
    refine x_lconst (v := 0) rfl rfl (by decide +kernel) ?_
    refine x_lc_lt rfl rfl rfl rfl (fun hc11 => ?_) (fun hc11 => ?_)
    · refine x_iconstN (b := 0) rfl rfl ?_
      (rw [bI_iff (isV_7 hs7)]; exact x_retZ rfl rfl rfl (by first | exact Or.inl rfl | exact Or.inr rfl) (by omega) (oB_f (fun z => z.1 hc11)) rfl)
    · refine x_lload rfl rfl rfl ?_
      refine x_aload_n rfl rfl rfl ?_
      refine x_getIv (v := nI n) hn rfl rfl f_9_121 rfl (by decide) rfl ?_
      refine x_i2lN (a := n) (by omega) rfl rfl ?_
      refine x_lc_ge rfl rfl rfl rfl (fun hc12 => ?_) (fun hc12 => ?_)
      · refine x_iconstN (b := 0) rfl rfl ?_
        (rw [bI_iff (isV_7 hs7)]; exact x_retZ rfl rfl rfl (by first | exact Or.inl rfl | exact Or.inr rfl) (by omega) (oB_f (fun z => hc12 z.2)) rfl)
      · refine x_iconstN (b := 1) rfl rfl ?_
        refine x_goto rfl rfl ?_
        (rw [bI_iff (isV_7 hs7)]; exact x_retZ rfl rfl rfl (by first | exact Or.inl rfl | exact Or.inr rfl) (by omega) (oB_t ⟨hc11, hc12⟩) rfl)
  refine x_swOut (tg := 166) rfl (by rw [nI_toInt (by omega)]; omega) (by decide) ?_
  refine x_iconstN (b := 0) rfl rfl ?_
  exact x_retZ rfl rfl rfl (by first | exact Or.inl rfl | exact Or.inr rfl) (by omega) (oB_f (isV_Nm (by omega))) rfl
set_option maxHeartbeats 4000000 in
set_option maxRecDepth 20000 in
theorem c_mnewWide (hG : Gok G) (b : Int64) {w : Nat} (hw : M.1 (40, 0) 1 = nI w) (hw2 : w < 40) : Ct G mX9_newWide d [.ref (ga G (40, 0)), .long (b)] M (.inl (some (.long ((16 * (lN (w))) + 5)))) (ui (ul M (41, 0) w b) (40, 0) 1 (nI (w + 1))) 0 := by
  refine ct_of hG okX9_newWide (by decide +kernel) rfl (Nat.le_of_ble_eq_true rfl) ?_
  refine x_aload_n rfl rfl rfl ?_
  refine x_getR0 rfl rfl f_9_7 rfl (by decide) rfl rfl ?_
  refine x_aload_n rfl rfl rfl ?_
  refine x_getIv (v := nI w) hw rfl rfl f_9_114 rfl (by decide) rfl ?_
  refine x_lload_n rfl rfl rfl ?_
  refine x_last (a := w) rfl rfl rfl (by decide) (by omega) (by decide) ?_
  refine x_aload_n rfl rfl rfl ?_
  refine x_dup rfl rfl rfl ?_
  refine x_getIv (v := nI w) (by first | exact hw | (rw [← hw]; rfl) | simp [ui, ul, hw]) rfl rfl f_9_114 rfl (by decide) rfl ?_
  refine x_iconstN (b := 1) rfl rfl ?_
  refine x_iaddN (a := w) (b := 1) rfl rfl ?_
  refine x_putI rfl rfl f_9_114 rfl rfl (by decide) rfl ?_
  refine x_ldc2 (v := 16) rfl rfl k_9_128 ?_
  refine x_aload_n rfl rfl rfl ?_
  refine x_getIv (v := nI (w + 1)) (by first | rfl | simp [ui, ul]) rfl rfl f_9_114 rfl (by decide) rfl ?_
  refine x_iconstN (b := 1) rfl rfl ?_
  refine x_isubN (a := w + 1) (b := 1) (by omega) rfl rfl ?_
  refine x_i2lN (a := w) (by omega) rfl rfl ?_
  refine x_lmul rfl rfl ?_
  refine x_ldc2 (v := 5) rfl rfl k_9_130 ?_
  refine x_ladd rfl rfl ?_
  exact x_retL rfl rfl rfl (by omega) rfl rfl
set_option maxHeartbeats 4000000 in
set_option maxRecDepth 20000 in
theorem c_mvalueOf (hG : Gok G) {i : Nat} (hi : i < 40) : Ct G mX9_valueOf d [.ref (ga G (40, 0)), .int (nI i)] M (.inl (some (.long ((16 * (lN (i))) + 7)))) M 0 := by
  refine ct_of hG okX9_valueOf (by decide +kernel) rfl (Nat.le_of_ble_eq_true rfl) ?_
  refine x_ldc2 (v := 16) rfl rfl k_9_128 ?_
  refine x_iload_n rfl rfl rfl ?_
  refine x_i2lN (a := i) (by omega) rfl rfl ?_
  refine x_lmul rfl rfl ?_
  refine x_ldc2 (v := 7) rfl rfl k_9_132 ?_
  refine x_ladd rfl rfl ?_
  exact x_retL rfl rfl rfl (by omega) rfl rfl
set_option maxHeartbeats 4000000 in
set_option maxRecDepth 20000 in
theorem c_mnewThing (hG : Gok G) (kd ct tr : Int32) (b : Int64) {n : Nat} (hn : M.1 (40, 0) 8 = nI n) (hn2 : n < 40) : Ct G mX9_newThing d [.ref (ga G (40, 0)), .int (kd), .long (b), .int (ct), .int (tr)] M (.inl (some (.int (nI n)))) (ui (ul (ul (ul (ul (ul (ul (ul (ul (ui (ui (ui (ul (ui M (46, 0) n kd) (47, 0) n b) (48, 0) n ct) (49, 0) n tr) (51, 0) n (nI 0)) (50, 0) ((8 * n) + 0) 0) (50, 0) ((8 * n) + 1) 0) (50, 0) ((8 * n) + 2) 0) (50, 0) ((8 * n) + 3) 0) (50, 0) ((8 * n) + 4) 0) (50, 0) ((8 * n) + 5) 0) (50, 0) ((8 * n) + 6) 0) (50, 0) ((8 * n) + 7) 0) (40, 0) 8 (nI (n + 1))) 0 := by
  refine ct_of hG okX9_newThing (by decide +kernel) rfl (Nat.le_of_ble_eq_true rfl) ?_
  refine x_aload_n rfl rfl rfl ?_
  refine x_getR0 rfl rfl f_9_27 rfl (by decide) rfl rfl ?_
  refine x_aload_n rfl rfl rfl ?_
  refine x_getIv (v := nI n) hn rfl rfl f_9_121 rfl (by decide) rfl ?_
  refine x_iload_n rfl rfl rfl ?_
  refine x_iast (a := n) rfl rfl rfl (by decide) (by omega) (by decide) ?_
  refine x_aload_n rfl rfl rfl ?_
  refine x_getR0 rfl rfl f_9_30 rfl (by decide) rfl rfl ?_
  refine x_aload_n rfl rfl rfl ?_
  refine x_getIv (v := nI n) (by first | exact hn | (rw [← hn]; rfl) | simp [ui, ul, hn]) rfl rfl f_9_121 rfl (by decide) rfl ?_
  refine x_lload_n rfl rfl rfl ?_
  refine x_last (a := n) rfl rfl rfl (by decide) (by omega) (by decide) ?_
  refine x_aload_n rfl rfl rfl ?_
  refine x_getR0 rfl rfl f_9_33 rfl (by decide) rfl rfl ?_
  refine x_aload_n rfl rfl rfl ?_
  refine x_getIv (v := nI n) (by first | exact hn | (rw [← hn]; rfl) | simp [ui, ul, hn]) rfl rfl f_9_121 rfl (by decide) rfl ?_
  refine x_iload rfl rfl rfl ?_
  refine x_iast (a := n) rfl rfl rfl (by decide) (by omega) (by decide) ?_
  refine x_aload_n rfl rfl rfl ?_
  refine x_getR0 rfl rfl f_9_36 rfl (by decide) rfl rfl ?_
  refine x_aload_n rfl rfl rfl ?_
  refine x_getIv (v := nI n) (by first | exact hn | (rw [← hn]; rfl) | simp [ui, ul, hn]) rfl rfl f_9_121 rfl (by decide) rfl ?_
  refine x_iload rfl rfl rfl ?_
  refine x_iast (a := n) rfl rfl rfl (by decide) (by omega) (by decide) ?_
  refine x_aload_n rfl rfl rfl ?_
  refine x_getR0 rfl rfl f_9_42 rfl (by decide) rfl rfl ?_
  refine x_aload_n rfl rfl rfl ?_
  refine x_getIv (v := nI n) (by first | exact hn | (rw [← hn]; rfl) | simp [ui, ul, hn]) rfl rfl f_9_121 rfl (by decide) rfl ?_
  refine x_iconstN (b := 0) rfl rfl ?_
  refine x_iast (a := n) rfl rfl rfl (by decide) (by omega) (by decide) ?_
  refine x_iconstN (b := 0) rfl rfl ?_
  refine x_istore rfl rfl rfl rfl ?_
  refine x_iload rfl rfl rfl ?_
  refine x_bipush (v := nI 8) rfl rfl (by decide +kernel) ?_
  refine x_icmpN_ge (by omega) (by omega) rfl rfl (fun hc1 => absurd hc1 (by omega)) (fun hc1 => ?_)
  refine x_aload_n rfl rfl rfl ?_
  refine x_getR0 rfl rfl f_9_39 rfl (by decide) rfl rfl ?_
  refine x_bipush (v := nI 8) rfl rfl (by decide +kernel) ?_
  refine x_aload_n rfl rfl rfl ?_
  refine x_getIv (v := nI n) (by first | exact hn | (rw [← hn]; rfl) | simp [ui, ul, hn]) rfl rfl f_9_121 rfl (by decide) rfl ?_
  refine x_imulN (a := 8) (b := n) rfl rfl ?_
  refine x_iload rfl rfl rfl ?_
  refine x_iaddN (a := 8 * n) (b := 0) rfl rfl ?_
  refine x_lconst (v := 0) rfl rfl (by decide +kernel) ?_
  refine x_last (a := (8 * n) + 0) rfl rfl rfl (by decide) (by omega) (by decide) ?_
  refine x_iincN (a := 0) (b := 1) rfl rfl rfl rfl rfl ?_
  refine x_goto rfl rfl ?_
  refine x_iload rfl rfl rfl ?_
  refine x_bipush (v := nI 8) rfl rfl (by decide +kernel) ?_
  refine x_icmpN_ge (by omega) (by omega) rfl rfl (fun hc2 => absurd hc2 (by omega)) (fun hc2 => ?_)
  refine x_aload_n rfl rfl rfl ?_
  refine x_getR0 rfl rfl f_9_39 rfl (by decide) rfl rfl ?_
  refine x_bipush (v := nI 8) rfl rfl (by decide +kernel) ?_
  refine x_aload_n rfl rfl rfl ?_
  refine x_getIv (v := nI n) (by first | exact hn | (rw [← hn]; rfl) | simp [ui, ul, hn]) rfl rfl f_9_121 rfl (by decide) rfl ?_
  refine x_imulN (a := 8) (b := n) rfl rfl ?_
  refine x_iload rfl rfl rfl ?_
  refine x_iaddN (a := 8 * n) (b := 1) rfl rfl ?_
  refine x_lconst (v := 0) rfl rfl (by decide +kernel) ?_
  refine x_last (a := (8 * n) + 1) rfl rfl rfl (by decide) (by omega) (by decide) ?_
  refine x_iincN (a := 1) (b := 1) rfl rfl rfl rfl rfl ?_
  refine x_goto rfl rfl ?_
  refine x_iload rfl rfl rfl ?_
  refine x_bipush (v := nI 8) rfl rfl (by decide +kernel) ?_
  refine x_icmpN_ge (by omega) (by omega) rfl rfl (fun hc3 => absurd hc3 (by omega)) (fun hc3 => ?_)
  refine x_aload_n rfl rfl rfl ?_
  refine x_getR0 rfl rfl f_9_39 rfl (by decide) rfl rfl ?_
  refine x_bipush (v := nI 8) rfl rfl (by decide +kernel) ?_
  refine x_aload_n rfl rfl rfl ?_
  refine x_getIv (v := nI n) (by first | exact hn | (rw [← hn]; rfl) | simp [ui, ul, hn]) rfl rfl f_9_121 rfl (by decide) rfl ?_
  refine x_imulN (a := 8) (b := n) rfl rfl ?_
  refine x_iload rfl rfl rfl ?_
  refine x_iaddN (a := 8 * n) (b := 2) rfl rfl ?_
  refine x_lconst (v := 0) rfl rfl (by decide +kernel) ?_
  refine x_last (a := (8 * n) + 2) rfl rfl rfl (by decide) (by omega) (by decide) ?_
  refine x_iincN (a := 2) (b := 1) rfl rfl rfl rfl rfl ?_
  refine x_goto rfl rfl ?_
  refine x_iload rfl rfl rfl ?_
  refine x_bipush (v := nI 8) rfl rfl (by decide +kernel) ?_
  refine x_icmpN_ge (by omega) (by omega) rfl rfl (fun hc4 => absurd hc4 (by omega)) (fun hc4 => ?_)
  refine x_aload_n rfl rfl rfl ?_
  refine x_getR0 rfl rfl f_9_39 rfl (by decide) rfl rfl ?_
  refine x_bipush (v := nI 8) rfl rfl (by decide +kernel) ?_
  refine x_aload_n rfl rfl rfl ?_
  refine x_getIv (v := nI n) (by first | exact hn | (rw [← hn]; rfl) | simp [ui, ul, hn]) rfl rfl f_9_121 rfl (by decide) rfl ?_
  refine x_imulN (a := 8) (b := n) rfl rfl ?_
  refine x_iload rfl rfl rfl ?_
  refine x_iaddN (a := 8 * n) (b := 3) rfl rfl ?_
  refine x_lconst (v := 0) rfl rfl (by decide +kernel) ?_
  refine x_last (a := (8 * n) + 3) rfl rfl rfl (by decide) (by omega) (by decide) ?_
  refine x_iincN (a := 3) (b := 1) rfl rfl rfl rfl rfl ?_
  refine x_goto rfl rfl ?_
  refine x_iload rfl rfl rfl ?_
  refine x_bipush (v := nI 8) rfl rfl (by decide +kernel) ?_
  refine x_icmpN_ge (by omega) (by omega) rfl rfl (fun hc5 => absurd hc5 (by omega)) (fun hc5 => ?_)
  refine x_aload_n rfl rfl rfl ?_
  refine x_getR0 rfl rfl f_9_39 rfl (by decide) rfl rfl ?_
  refine x_bipush (v := nI 8) rfl rfl (by decide +kernel) ?_
  refine x_aload_n rfl rfl rfl ?_
  refine x_getIv (v := nI n) (by first | exact hn | (rw [← hn]; rfl) | simp [ui, ul, hn]) rfl rfl f_9_121 rfl (by decide) rfl ?_
  refine x_imulN (a := 8) (b := n) rfl rfl ?_
  refine x_iload rfl rfl rfl ?_
  refine x_iaddN (a := 8 * n) (b := 4) rfl rfl ?_
  refine x_lconst (v := 0) rfl rfl (by decide +kernel) ?_
  refine x_last (a := (8 * n) + 4) rfl rfl rfl (by decide) (by omega) (by decide) ?_
  refine x_iincN (a := 4) (b := 1) rfl rfl rfl rfl rfl ?_
  refine x_goto rfl rfl ?_
  refine x_iload rfl rfl rfl ?_
  refine x_bipush (v := nI 8) rfl rfl (by decide +kernel) ?_
  refine x_icmpN_ge (by omega) (by omega) rfl rfl (fun hc6 => absurd hc6 (by omega)) (fun hc6 => ?_)
  refine x_aload_n rfl rfl rfl ?_
  refine x_getR0 rfl rfl f_9_39 rfl (by decide) rfl rfl ?_
  refine x_bipush (v := nI 8) rfl rfl (by decide +kernel) ?_
  refine x_aload_n rfl rfl rfl ?_
  refine x_getIv (v := nI n) (by first | exact hn | (rw [← hn]; rfl) | simp [ui, ul, hn]) rfl rfl f_9_121 rfl (by decide) rfl ?_
  refine x_imulN (a := 8) (b := n) rfl rfl ?_
  refine x_iload rfl rfl rfl ?_
  refine x_iaddN (a := 8 * n) (b := 5) rfl rfl ?_
  refine x_lconst (v := 0) rfl rfl (by decide +kernel) ?_
  refine x_last (a := (8 * n) + 5) rfl rfl rfl (by decide) (by omega) (by decide) ?_
  refine x_iincN (a := 5) (b := 1) rfl rfl rfl rfl rfl ?_
  refine x_goto rfl rfl ?_
  refine x_iload rfl rfl rfl ?_
  refine x_bipush (v := nI 8) rfl rfl (by decide +kernel) ?_
  refine x_icmpN_ge (by omega) (by omega) rfl rfl (fun hc7 => absurd hc7 (by omega)) (fun hc7 => ?_)
  refine x_aload_n rfl rfl rfl ?_
  refine x_getR0 rfl rfl f_9_39 rfl (by decide) rfl rfl ?_
  refine x_bipush (v := nI 8) rfl rfl (by decide +kernel) ?_
  refine x_aload_n rfl rfl rfl ?_
  refine x_getIv (v := nI n) (by first | exact hn | (rw [← hn]; rfl) | simp [ui, ul, hn]) rfl rfl f_9_121 rfl (by decide) rfl ?_
  refine x_imulN (a := 8) (b := n) rfl rfl ?_
  refine x_iload rfl rfl rfl ?_
  refine x_iaddN (a := 8 * n) (b := 6) rfl rfl ?_
  refine x_lconst (v := 0) rfl rfl (by decide +kernel) ?_
  refine x_last (a := (8 * n) + 6) rfl rfl rfl (by decide) (by omega) (by decide) ?_
  refine x_iincN (a := 6) (b := 1) rfl rfl rfl rfl rfl ?_
  refine x_goto rfl rfl ?_
  refine x_iload rfl rfl rfl ?_
  refine x_bipush (v := nI 8) rfl rfl (by decide +kernel) ?_
  refine x_icmpN_ge (by omega) (by omega) rfl rfl (fun hc8 => absurd hc8 (by omega)) (fun hc8 => ?_)
  refine x_aload_n rfl rfl rfl ?_
  refine x_getR0 rfl rfl f_9_39 rfl (by decide) rfl rfl ?_
  refine x_bipush (v := nI 8) rfl rfl (by decide +kernel) ?_
  refine x_aload_n rfl rfl rfl ?_
  refine x_getIv (v := nI n) (by first | exact hn | (rw [← hn]; rfl) | simp [ui, ul, hn]) rfl rfl f_9_121 rfl (by decide) rfl ?_
  refine x_imulN (a := 8) (b := n) rfl rfl ?_
  refine x_iload rfl rfl rfl ?_
  refine x_iaddN (a := 8 * n) (b := 7) rfl rfl ?_
  refine x_lconst (v := 0) rfl rfl (by decide +kernel) ?_
  refine x_last (a := (8 * n) + 7) rfl rfl rfl (by decide) (by omega) (by decide) ?_
  refine x_iincN (a := 7) (b := 1) rfl rfl rfl rfl rfl ?_
  refine x_goto rfl rfl ?_
  refine x_iload rfl rfl rfl ?_
  refine x_bipush (v := nI 8) rfl rfl (by decide +kernel) ?_
  refine x_icmpN_ge (by omega) (by omega) rfl rfl (fun hc9 => ?_) (fun hc9 => absurd hc9 (by omega))
  refine x_aload_n rfl rfl rfl ?_
  refine x_dup rfl rfl rfl ?_
  refine x_getIv (v := nI n) (by first | exact hn | (rw [← hn]; rfl) | simp [ui, ul, hn]) rfl rfl f_9_121 rfl (by decide) rfl ?_
  refine x_iconstN (b := 1) rfl rfl ?_
  refine x_iaddN (a := n) (b := 1) rfl rfl ?_
  refine x_putI rfl rfl f_9_121 rfl rfl (by decide) rfl ?_
  refine x_aload_n rfl rfl rfl ?_
  refine x_getIv (v := nI (n + 1)) (by first | rfl | simp [ui, ul]) rfl rfl f_9_121 rfl (by decide) rfl ?_
  refine x_iconstN (b := 1) rfl rfl ?_
  refine x_isubN (a := n + 1) (b := 1) (by omega) rfl rfl ?_
  exact x_retI rfl rfl rfl (by omega) rfl rfl
set_option maxHeartbeats 4000000 in
set_option maxRecDepth 20000 in
theorem c_mwide (hG : Gok G) (hd : 1 ≤ d) (b : Int64) {w : Nat} (hw : M.1 (40, 0) 1 = nI w) (hw2 : w < 40) : Ct G mX9_wide d [.ref (ga G (40, 0)), .long (b)] M (.inl (some (.long (16 * (lN (w)) + 5)))) (ui (ul (ui M (40, 0) 0 (nI 0)) (41, 0) w b) (40, 0) 1 (nI (w + 1))) 0 := by
  refine ct_of hG okX9_wide (by decide +kernel) rfl (Nat.le_of_ble_eq_true rfl) ?_
  refine x_aload_n rfl rfl rfl ?_
  refine x_aload_n rfl rfl rfl ?_
  refine x_getIv (v := nI w) hw rfl rfl f_9_114 rfl (by decide) rfl ?_
  refine x_bipush (v := nI 40) rfl rfl (by decide +kernel) ?_
  refine x_icmpN_ne (by omega) (by omega) rfl rfl (fun hc1 => ?_) (fun hc1 => absurd hc1 (by omega))
  refine x_iconstN (b := 0) rfl rfl ?_
  refine x_putI rfl rfl f_9_97 rfl rfl (by decide) rfl ?_
  refine x_aload_n rfl rfl rfl ?_
  refine x_getIv (v := nI 0) (by first | rfl | simp [ui, ul]) rfl rfl f_9_97 rfl (by decide) rfl ?_
  refine x_if_le rfl rfl (fun _ => ?_) (fun hc2 => absurd hc2 (by decide +kernel))
  refine x_aload_n rfl rfl rfl ?_
  refine x_lload_n rfl rfl rfl ?_
  refine x_callVl (d2 := 0) (c_mnewWide (w := w) hG (b) (by first | exact hw | (rw [← hw]; rfl) | simp [ui, ul, hw]) (by omega)) rfl rfl v_9_124 rfl rfl (by decide) rfl rfl (Nat.le_of_ble_eq_true rfl) (by omega) (by omega) ?_
  exact x_retL rfl rfl rfl (by omega) rfl rfl
set_option maxHeartbeats 4000000 in
set_option maxRecDepth 20000 in
theorem c_mwideX (hG : Gok G) (b : Int64) (hw : M.1 (40, 0) 1 = nI 40) : Ct G mX9_wide d [.ref (ga G (40, 0)), .long (b)] M (.inl (some (.long (0)))) (ui M (40, 0) 0 (nI 1)) 0 := by
  refine ct_of hG okX9_wide (by decide +kernel) rfl (Nat.le_of_ble_eq_true rfl) ?_
  refine x_aload_n rfl rfl rfl ?_
  refine x_aload_n rfl rfl rfl ?_
  refine x_getIv (v := nI 40) hw rfl rfl f_9_114 rfl (by decide) rfl ?_
  refine x_bipush (v := nI 40) rfl rfl (by decide +kernel) ?_
  refine x_icmpN_ne (by omega) (by omega) rfl rfl (fun hc1 => absurd hc1 (by omega)) (fun hc1 => ?_)
  refine x_iconstN (b := 1) rfl rfl ?_
  refine x_goto rfl rfl ?_
  refine x_putI rfl rfl f_9_97 rfl rfl (by decide) rfl ?_
  refine x_aload_n rfl rfl rfl ?_
  refine x_getIv (v := nI 1) (by first | rfl | simp [ui, ul]) rfl rfl f_9_97 rfl (by decide) rfl ?_
  refine x_if_le rfl rfl (fun hc2 => absurd hc2 (by decide +kernel)) (fun _ => ?_)
  refine x_lconst (v := 0) rfl rfl (by decide +kernel) ?_
  refine x_goto rfl rfl ?_
  exact x_retL rfl rfl rfl (by omega) rfl rfl
set_option maxHeartbeats 4000000 in
set_option maxRecDepth 20000 in
theorem c_mdate (hG : Gok G) (hd : 1 ≤ d) (b : Int64) {n : Nat} (hn : M.1 (40, 0) 8 = nI n) (hn2 : n < 40) : Ct G mX9_date d [.ref (ga G (40, 0)), .long (b)] M (.inl (some (.long (16 * (lN (n)) + 7)))) (ui (ul (ul (ul (ul (ul (ul (ul (ul (ui (ui (ui (ul (ui (ui M (40, 0) 0 (nI 0)) (46, 0) n (nI 8)) (47, 0) n b) (48, 0) n (nI 0)) (49, 0) n ((-1))) (51, 0) n (nI 0)) (50, 0) ((8 * n) + 0) 0) (50, 0) ((8 * n) + 1) 0) (50, 0) ((8 * n) + 2) 0) (50, 0) ((8 * n) + 3) 0) (50, 0) ((8 * n) + 4) 0) (50, 0) ((8 * n) + 5) 0) (50, 0) ((8 * n) + 6) 0) (50, 0) ((8 * n) + 7) 0) (40, 0) 8 (nI (n + 1))) 0 := by
  refine ct_of hG okX9_date (by decide +kernel) rfl (Nat.le_of_ble_eq_true rfl) ?_
  refine x_aload_n rfl rfl rfl ?_
  refine x_aload_n rfl rfl rfl ?_
  refine x_getIv (v := nI n) hn rfl rfl f_9_121 rfl (by decide) rfl ?_
  refine x_bipush (v := nI 40) rfl rfl (by decide +kernel) ?_
  refine x_icmpN_ne (by omega) (by omega) rfl rfl (fun hc1 => ?_) (fun hc1 => absurd hc1 (by omega))
  refine x_iconstN (b := 0) rfl rfl ?_
  refine x_putI rfl rfl f_9_97 rfl rfl (by decide) rfl ?_
  refine x_aload_n rfl rfl rfl ?_
  refine x_getIv (v := nI 0) (by first | rfl | simp [ui, ul]) rfl rfl f_9_97 rfl (by decide) rfl ?_
  refine x_if_le rfl rfl (fun _ => ?_) (fun hc2 => absurd hc2 (by decide +kernel))
  refine x_aload_n rfl rfl rfl ?_
  refine x_aload_n rfl rfl rfl ?_
  refine x_bipush (v := nI 8) rfl rfl (by decide +kernel) ?_
  refine x_lload_n rfl rfl rfl ?_
  refine x_iconstN (b := 0) rfl rfl ?_
  refine x_iconst (v := -1) rfl rfl (by decide +kernel) ?_
  refine x_callVi (d2 := 0) (c_mnewThing (n := n) hG (nI 8) (nI 0) ((-1)) (b) (by first | exact hn | (rw [← hn]; rfl) | simp [ui, ul, hn]) (by omega)) rfl rfl v_9_134 rfl rfl (by decide) rfl rfl (Nat.le_of_ble_eq_true rfl) (by omega) (by omega) ?_
  refine x_callVl (d2 := 0) (c_mvalueOf (i := n) hG (by omega)) rfl rfl v_9_138 rfl rfl (by decide) rfl rfl (Nat.le_of_ble_eq_true rfl) (by omega) (by omega) ?_
  exact x_retL rfl rfl rfl (by omega) rfl rfl
set_option maxHeartbeats 4000000 in
set_option maxRecDepth 20000 in
theorem c_mdateX (hG : Gok G) (b : Int64) (hn : M.1 (40, 0) 8 = nI 40) : Ct G mX9_date d [.ref (ga G (40, 0)), .long (b)] M (.inl (some (.long (0)))) (ui M (40, 0) 0 (nI 1)) 0 := by
  refine ct_of hG okX9_date (by decide +kernel) rfl (Nat.le_of_ble_eq_true rfl) ?_
  refine x_aload_n rfl rfl rfl ?_
  refine x_aload_n rfl rfl rfl ?_
  refine x_getIv (v := nI 40) hn rfl rfl f_9_121 rfl (by decide) rfl ?_
  refine x_bipush (v := nI 40) rfl rfl (by decide +kernel) ?_
  refine x_icmpN_ne (by omega) (by omega) rfl rfl (fun hc1 => absurd hc1 (by omega)) (fun hc1 => ?_)
  refine x_iconstN (b := 1) rfl rfl ?_
  refine x_goto rfl rfl ?_
  refine x_putI rfl rfl f_9_97 rfl rfl (by decide) rfl ?_
  refine x_aload_n rfl rfl rfl ?_
  refine x_getIv (v := nI 1) (by first | rfl | simp [ui, ul]) rfl rfl f_9_97 rfl (by decide) rfl ?_
  refine x_if_le rfl rfl (fun hc2 => absurd hc2 (by decide +kernel)) (fun _ => ?_)
  refine x_lconst (v := 0) rfl rfl (by decide +kernel) ?_
  refine x_goto rfl rfl ?_
  exact x_retL rfl rfl rfl (by omega) rfl rfl
set_option maxHeartbeats 4000000 in
set_option maxRecDepth 20000 in
theorem c_marray (hG : Gok G) (hd : 1 ≤ d) {n : Nat} (hn : M.1 (40, 0) 8 = nI n) (hn2 : n < 40) : Ct G mX9_array d [.ref (ga G (40, 0))] M (.inl (some (.long (16 * (lN (n)) + 7)))) (ui (ul (ul (ul (ul (ul (ul (ul (ul (ui (ui (ui (ul (ui (ui M (40, 0) 0 (nI 0)) (46, 0) n (nI 9)) (47, 0) n 0) (48, 0) n (nI 0)) (49, 0) n ((-1))) (51, 0) n (nI 0)) (50, 0) ((8 * n) + 0) 0) (50, 0) ((8 * n) + 1) 0) (50, 0) ((8 * n) + 2) 0) (50, 0) ((8 * n) + 3) 0) (50, 0) ((8 * n) + 4) 0) (50, 0) ((8 * n) + 5) 0) (50, 0) ((8 * n) + 6) 0) (50, 0) ((8 * n) + 7) 0) (40, 0) 8 (nI (n + 1))) 0 := by
  refine ct_of hG okX9_array (by decide +kernel) rfl (Nat.le_of_ble_eq_true rfl) ?_
  refine x_aload_n rfl rfl rfl ?_
  refine x_aload_n rfl rfl rfl ?_
  refine x_getIv (v := nI n) hn rfl rfl f_9_121 rfl (by decide) rfl ?_
  refine x_bipush (v := nI 40) rfl rfl (by decide +kernel) ?_
  refine x_icmpN_ne (by omega) (by omega) rfl rfl (fun hc1 => ?_) (fun hc1 => absurd hc1 (by omega))
  refine x_iconstN (b := 0) rfl rfl ?_
  refine x_putI rfl rfl f_9_97 rfl rfl (by decide) rfl ?_
  refine x_aload_n rfl rfl rfl ?_
  refine x_getIv (v := nI 0) (by first | rfl | simp [ui, ul]) rfl rfl f_9_97 rfl (by decide) rfl ?_
  refine x_if_le rfl rfl (fun _ => ?_) (fun hc2 => absurd hc2 (by decide +kernel))
  refine x_aload_n rfl rfl rfl ?_
  refine x_aload_n rfl rfl rfl ?_
  refine x_bipush (v := nI 9) rfl rfl (by decide +kernel) ?_
  refine x_lconst (v := 0) rfl rfl (by decide +kernel) ?_
  refine x_iconstN (b := 0) rfl rfl ?_
  refine x_iconst (v := -1) rfl rfl (by decide +kernel) ?_
  refine x_callVi (d2 := 0) (c_mnewThing (n := n) hG (nI 9) (nI 0) ((-1)) (0) (by first | exact hn | (rw [← hn]; rfl) | simp [ui, ul, hn]) (by omega)) rfl rfl v_9_134 rfl rfl (by decide) rfl rfl (Nat.le_of_ble_eq_true rfl) (by omega) (by omega) ?_
  refine x_callVl (d2 := 0) (c_mvalueOf (i := n) hG (by omega)) rfl rfl v_9_138 rfl rfl (by decide) rfl rfl (Nat.le_of_ble_eq_true rfl) (by omega) (by omega) ?_
  exact x_retL rfl rfl rfl (by omega) rfl rfl
set_option maxHeartbeats 4000000 in
set_option maxRecDepth 20000 in
theorem c_marrayX (hG : Gok G) (hn : M.1 (40, 0) 8 = nI 40) : Ct G mX9_array d [.ref (ga G (40, 0))] M (.inl (some (.long (0)))) (ui M (40, 0) 0 (nI 1)) 0 := by
  refine ct_of hG okX9_array (by decide +kernel) rfl (Nat.le_of_ble_eq_true rfl) ?_
  refine x_aload_n rfl rfl rfl ?_
  refine x_aload_n rfl rfl rfl ?_
  refine x_getIv (v := nI 40) hn rfl rfl f_9_121 rfl (by decide) rfl ?_
  refine x_bipush (v := nI 40) rfl rfl (by decide +kernel) ?_
  refine x_icmpN_ne (by omega) (by omega) rfl rfl (fun hc1 => absurd hc1 (by omega)) (fun hc1 => ?_)
  refine x_iconstN (b := 1) rfl rfl ?_
  refine x_goto rfl rfl ?_
  refine x_putI rfl rfl f_9_97 rfl rfl (by decide) rfl ?_
  refine x_aload_n rfl rfl rfl ?_
  refine x_getIv (v := nI 1) (by first | rfl | simp [ui, ul]) rfl rfl f_9_97 rfl (by decide) rfl ?_
  refine x_if_le rfl rfl (fun hc2 => absurd hc2 (by decide +kernel)) (fun _ => ?_)
  refine x_lconst (v := 0) rfl rfl (by decide +kernel) ?_
  refine x_goto rfl rfl ?_
  exact x_retL rfl rfl rfl (by omega) rfl rfl
set_option maxHeartbeats 4000000 in
set_option maxRecDepth 20000 in
theorem c_mbytes (hG : Gok G) (hd : 1 ≤ d) (b : Int64) {m : Nat} (hm : m ≤ 8) {n : Nat} (hn : M.1 (40, 0) 8 = nI n) (hn2 : n < 40) : Ct G mX9_bytes d [.ref (ga G (40, 0)), .long (b), .int (nI m)] M (.inl (some (.long (16 * (lN (n)) + 7)))) (ui (ul (ul (ul (ul (ul (ul (ul (ul (ui (ui (ui (ul (ui (ui M (40, 0) 0 (nI 0)) (46, 0) n (nI 12)) (47, 0) n b) (48, 0) n (nI m)) (49, 0) n ((-1))) (51, 0) n (nI 0)) (50, 0) ((8 * n) + 0) 0) (50, 0) ((8 * n) + 1) 0) (50, 0) ((8 * n) + 2) 0) (50, 0) ((8 * n) + 3) 0) (50, 0) ((8 * n) + 4) 0) (50, 0) ((8 * n) + 5) 0) (50, 0) ((8 * n) + 6) 0) (50, 0) ((8 * n) + 7) 0) (40, 0) 8 (nI (n + 1))) 0 := by
  refine ct_of hG okX9_bytes (by decide +kernel) rfl (Nat.le_of_ble_eq_true rfl) ?_
  refine x_aload_n rfl rfl rfl ?_
  refine x_iload_n rfl rfl rfl ?_
  refine x_ifN_lt (by omega) rfl rfl (fun hc1 => hc1.elim) (fun hc1 => ?_)
  refine x_iload_n rfl rfl rfl ?_
  refine x_bipush (v := nI 8) rfl rfl (by decide +kernel) ?_
  refine x_icmpN_le (by omega) (by omega) rfl rfl (fun hc2 => ?_) (fun hc2 => absurd hc2 (by omega))
  refine x_aload_n rfl rfl rfl ?_
  refine x_getIv (v := nI n) hn rfl rfl f_9_121 rfl (by decide) rfl ?_
  refine x_bipush (v := nI 40) rfl rfl (by decide +kernel) ?_
  refine x_icmpN_ne (by omega) (by omega) rfl rfl (fun hc3 => ?_) (fun hc3 => absurd hc3 (by omega))
  refine x_iconstN (b := 0) rfl rfl ?_
  refine x_putI rfl rfl f_9_97 rfl rfl (by decide) rfl ?_
  refine x_aload_n rfl rfl rfl ?_
  refine x_getIv (v := nI 0) (by first | rfl | simp [ui, ul]) rfl rfl f_9_97 rfl (by decide) rfl ?_
  refine x_if_le rfl rfl (fun _ => ?_) (fun hc4 => absurd hc4 (by decide +kernel))
  refine x_aload_n rfl rfl rfl ?_
  refine x_aload_n rfl rfl rfl ?_
  refine x_bipush (v := nI 12) rfl rfl (by decide +kernel) ?_
  refine x_lload_n rfl rfl rfl ?_
  refine x_iload_n rfl rfl rfl ?_
  refine x_iconst (v := -1) rfl rfl (by decide +kernel) ?_
  refine x_callVi (d2 := 0) (c_mnewThing (n := n) hG (nI 12) (nI m) ((-1)) (b) (by first | exact hn | (rw [← hn]; rfl) | simp [ui, ul, hn]) (by omega)) rfl rfl v_9_134 rfl rfl (by decide) rfl rfl (Nat.le_of_ble_eq_true rfl) (by omega) (by omega) ?_
  refine x_callVl (d2 := 0) (c_mvalueOf (i := n) hG (by omega)) rfl rfl v_9_138 rfl rfl (by decide) rfl rfl (Nat.le_of_ble_eq_true rfl) (by omega) (by omega) ?_
  exact x_retL rfl rfl rfl (by omega) rfl rfl
set_option maxHeartbeats 4000000 in
set_option maxRecDepth 20000 in
theorem c_mbytesX (hG : Gok G) (b : Int64) {m : Nat} (hm : m ≤ 8) (hn : M.1 (40, 0) 8 = nI 40) : Ct G mX9_bytes d [.ref (ga G (40, 0)), .long (b), .int (nI m)] M (.inl (some (.long (0)))) (ui M (40, 0) 0 (nI 2)) 0 := by
  refine ct_of hG okX9_bytes (by decide +kernel) rfl (Nat.le_of_ble_eq_true rfl) ?_
  refine x_aload_n rfl rfl rfl ?_
  refine x_iload_n rfl rfl rfl ?_
  refine x_ifN_lt (by omega) rfl rfl (fun hc1 => hc1.elim) (fun hc1 => ?_)
  refine x_iload_n rfl rfl rfl ?_
  refine x_bipush (v := nI 8) rfl rfl (by decide +kernel) ?_
  refine x_icmpN_le (by omega) (by omega) rfl rfl (fun hc2 => ?_) (fun hc2 => absurd hc2 (by omega))
  refine x_aload_n rfl rfl rfl ?_
  refine x_getIv (v := nI 40) hn rfl rfl f_9_121 rfl (by decide) rfl ?_
  refine x_bipush (v := nI 40) rfl rfl (by decide +kernel) ?_
  refine x_icmpN_ne (by omega) (by omega) rfl rfl (fun hc3 => absurd hc3 (by omega)) (fun hc3 => ?_)
  refine x_iconstN (b := 2) rfl rfl ?_
  refine x_goto rfl rfl ?_
  refine x_putI rfl rfl f_9_97 rfl rfl (by decide) rfl ?_
  refine x_aload_n rfl rfl rfl ?_
  refine x_getIv (v := nI 2) (by first | rfl | simp [ui, ul]) rfl rfl f_9_97 rfl (by decide) rfl ?_
  refine x_if_le rfl rfl (fun hc4 => absurd hc4 (by decide +kernel)) (fun _ => ?_)
  refine x_lconst (v := 0) rfl rfl (by decide +kernel) ?_
  refine x_goto rfl rfl ?_
  exact x_retL rfl rfl rfl (by omega) rfl rfl
set_option maxHeartbeats 4000000 in
set_option maxRecDepth 20000 in
theorem c_mbytesN (hG : Gok G) (b : Int64) {m : Int32} (hm : m < 0) : Ct G mX9_bytes d [.ref (ga G (40, 0)), .long (b), .int (m)] M (.inl (some (.long (0)))) (ui M (40, 0) 0 (nI 1)) 0 := by
  refine ct_of hG okX9_bytes (by decide +kernel) rfl (Nat.le_of_ble_eq_true rfl) ?_
  refine x_aload_n rfl rfl rfl ?_
  refine x_iload_n rfl rfl rfl ?_
  refine x_if_lt rfl rfl (fun hc1 => ?_) (fun hc1 => absurd hm hc1)
  refine x_iconstN (b := 1) rfl rfl ?_
  refine x_goto rfl rfl ?_
  refine x_putI rfl rfl f_9_97 rfl rfl (by decide) rfl ?_
  refine x_aload_n rfl rfl rfl ?_
  refine x_getIv (v := nI 1) (by first | rfl | simp [ui, ul]) rfl rfl f_9_97 rfl (by decide) rfl ?_
  refine x_if_le rfl rfl (fun hc2 => absurd hc2 (by decide +kernel)) (fun _ => ?_)
  refine x_lconst (v := 0) rfl rfl (by decide +kernel) ?_
  refine x_goto rfl rfl ?_
  exact x_retL rfl rfl rfl (by omega) rfl rfl
set_option maxHeartbeats 4000000 in
set_option maxRecDepth 20000 in
theorem c_mbytesO (hG : Gok G) (b : Int64) {m : Nat} (hm : 8 < m) (hm2 : m < 2 ^ 31) : Ct G mX9_bytes d [.ref (ga G (40, 0)), .long (b), .int (nI m)] M (.inl (some (.long (0)))) (ui M (40, 0) 0 (nI 1)) 0 := by
  refine ct_of hG okX9_bytes (by decide +kernel) rfl (Nat.le_of_ble_eq_true rfl) ?_
  refine x_aload_n rfl rfl rfl ?_
  refine x_iload_n rfl rfl rfl ?_
  refine x_ifN_lt (by omega) rfl rfl (fun hc1 => hc1.elim) (fun hc1 => ?_)
  refine x_iload_n rfl rfl rfl ?_
  refine x_bipush (v := nI 8) rfl rfl (by decide +kernel) ?_
  refine x_icmpN_le (by omega) (by omega) rfl rfl (fun hc2 => absurd hc2 (by omega)) (fun hc2 => ?_)
  refine x_iconstN (b := 1) rfl rfl ?_
  refine x_goto rfl rfl ?_
  refine x_putI rfl rfl f_9_97 rfl rfl (by decide) rfl ?_
  refine x_aload_n rfl rfl rfl ?_
  refine x_getIv (v := nI 1) (by first | rfl | simp [ui, ul]) rfl rfl f_9_97 rfl (by decide) rfl ?_
  refine x_if_le rfl rfl (fun hc3 => absurd hc3 (by decide +kernel)) (fun _ => ?_)
  refine x_lconst (v := 0) rfl rfl (by decide +kernel) ?_
  refine x_goto rfl rfl ?_
  exact x_retL rfl rfl rfl (by omega) rfl rfl
set_option maxHeartbeats 4000000 in
set_option maxRecDepth 20000 in
theorem c_mobject (hG : Gok G) (hd : 1 ≤ d) {n : Nat} (hn : M.1 (40, 0) 8 = nI n) (hn2 : n < 40) {tn : Nat} (htn : M.1 (40, 0) 3 = nI tn) (htn2 : tn ≤ 12) {t m : Nat} (ht : t < tn) (hm : M.1 (44, 0) t = nI m) : Ct G mX9_object d [.ref (ga G (40, 0)), .int (nI t)] M (.inl (some (.long (16 * (lN (n)) + 7)))) (ui (ul (ul (ul (ul (ul (ul (ul (ul (ui (ui (ui (ul (ui (ui M (40, 0) 0 (nI 0)) (46, 0) n (nI 10)) (47, 0) n 0) (48, 0) n (nI m)) (49, 0) n (nI t)) (51, 0) n (nI 0)) (50, 0) ((8 * n) + 0) 0) (50, 0) ((8 * n) + 1) 0) (50, 0) ((8 * n) + 2) 0) (50, 0) ((8 * n) + 3) 0) (50, 0) ((8 * n) + 4) 0) (50, 0) ((8 * n) + 5) 0) (50, 0) ((8 * n) + 6) 0) (50, 0) ((8 * n) + 7) 0) (40, 0) 8 (nI (n + 1))) 0 := by
  refine ct_of hG okX9_object (by decide +kernel) rfl (Nat.le_of_ble_eq_true rfl) ?_
  refine x_iload_n rfl rfl rfl ?_
  refine x_ifN_lt (by omega) rfl rfl (fun hc1 => hc1.elim) (fun hc1 => ?_)
  refine x_iload_n rfl rfl rfl ?_
  refine x_aload_n rfl rfl rfl ?_
  refine x_getIv (v := nI tn) htn rfl rfl f_9_142 rfl (by decide) rfl ?_
  refine x_icmpN_ge (by omega) (by omega) rfl rfl (fun hc2 => absurd hc2 (by omega)) (fun hc2 => ?_)
  refine x_iconstN (b := 1) rfl rfl ?_
  refine x_goto rfl rfl ?_
  refine x_istore_n rfl rfl rfl rfl ?_
  refine x_aload_n rfl rfl rfl ?_
  refine x_iload_n rfl rfl rfl ?_
  refine x_if_ne rfl rfl (fun _ => ?_) (fun hc3 => absurd hc3 (by decide +kernel))
  refine x_aload_n rfl rfl rfl ?_
  refine x_getIv (v := nI n) hn rfl rfl f_9_121 rfl (by decide) rfl ?_
  refine x_bipush (v := nI 40) rfl rfl (by decide +kernel) ?_
  refine x_icmpN_ne (by omega) (by omega) rfl rfl (fun hc4 => ?_) (fun hc4 => absurd hc4 (by omega))
  refine x_iconstN (b := 0) rfl rfl ?_
  refine x_putI rfl rfl f_9_97 rfl rfl (by decide) rfl ?_
  refine x_aload_n rfl rfl rfl ?_
  refine x_getIv (v := nI 0) (by first | rfl | simp [ui, ul]) rfl rfl f_9_97 rfl (by decide) rfl ?_
  refine x_if_le rfl rfl (fun _ => ?_) (fun hc5 => absurd hc5 (by decide +kernel))
  refine x_aload_n rfl rfl rfl ?_
  refine x_aload_n rfl rfl rfl ?_
  refine x_bipush (v := nI 10) rfl rfl (by decide +kernel) ?_
  refine x_lconst (v := 0) rfl rfl (by decide +kernel) ?_
  refine x_aload_n rfl rfl rfl ?_
  refine x_getR0 rfl rfl f_9_20 rfl (by decide) rfl rfl ?_
  refine x_iload_n rfl rfl rfl ?_
  refine x_ialdv (a := t) (v := nI m) (by first | exact hm | (rw [← hm]; rfl) | simp [ui, ul, hm]) rfl rfl rfl (by decide) (by omega) (by decide) ?_
  refine x_iload_n rfl rfl rfl ?_
  refine x_callVi (d2 := 0) (c_mnewThing (n := n) hG (nI 10) (nI m) (nI t) (0) (by first | exact hn | (rw [← hn]; rfl) | simp [ui, ul, hn]) (by omega)) rfl rfl v_9_134 rfl rfl (by decide) rfl rfl (Nat.le_of_ble_eq_true rfl) (by omega) (by omega) ?_
  refine x_callVl (d2 := 0) (c_mvalueOf (i := n) hG (by omega)) rfl rfl v_9_138 rfl rfl (by decide) rfl rfl (Nat.le_of_ble_eq_true rfl) (by omega) (by omega) ?_
  exact x_retL rfl rfl rfl (by omega) rfl rfl
set_option maxHeartbeats 4000000 in
set_option maxRecDepth 20000 in
theorem c_mobjectX (hG : Gok G) (hn : M.1 (40, 0) 8 = nI 40) {tn : Nat} (htn : M.1 (40, 0) 3 = nI tn) (htn2 : tn ≤ 12) {t : Nat} (ht : t < tn) : Ct G mX9_object d [.ref (ga G (40, 0)), .int (nI t)] M (.inl (some (.long (0)))) (ui M (40, 0) 0 (nI 2)) 0 := by
  refine ct_of hG okX9_object (by decide +kernel) rfl (Nat.le_of_ble_eq_true rfl) ?_
  refine x_iload_n rfl rfl rfl ?_
  refine x_ifN_lt (by omega) rfl rfl (fun hc1 => hc1.elim) (fun hc1 => ?_)
  refine x_iload_n rfl rfl rfl ?_
  refine x_aload_n rfl rfl rfl ?_
  refine x_getIv (v := nI tn) htn rfl rfl f_9_142 rfl (by decide) rfl ?_
  refine x_icmpN_ge (by omega) (by omega) rfl rfl (fun hc2 => absurd hc2 (by omega)) (fun hc2 => ?_)
  refine x_iconstN (b := 1) rfl rfl ?_
  refine x_goto rfl rfl ?_
  refine x_istore_n rfl rfl rfl rfl ?_
  refine x_aload_n rfl rfl rfl ?_
  refine x_iload_n rfl rfl rfl ?_
  refine x_if_ne rfl rfl (fun _ => ?_) (fun hc3 => absurd hc3 (by decide +kernel))
  refine x_aload_n rfl rfl rfl ?_
  refine x_getIv (v := nI 40) hn rfl rfl f_9_121 rfl (by decide) rfl ?_
  refine x_bipush (v := nI 40) rfl rfl (by decide +kernel) ?_
  refine x_icmpN_ne (by omega) (by omega) rfl rfl (fun hc4 => absurd hc4 (by omega)) (fun hc4 => ?_)
  refine x_iconstN (b := 2) rfl rfl ?_
  refine x_goto rfl rfl ?_
  refine x_putI rfl rfl f_9_97 rfl rfl (by decide) rfl ?_
  refine x_aload_n rfl rfl rfl ?_
  refine x_getIv (v := nI 2) (by first | rfl | simp [ui, ul]) rfl rfl f_9_97 rfl (by decide) rfl ?_
  refine x_if_le rfl rfl (fun hc5 => absurd hc5 (by decide +kernel)) (fun _ => ?_)
  refine x_lconst (v := 0) rfl rfl (by decide +kernel) ?_
  refine x_goto rfl rfl ?_
  exact x_retL rfl rfl rfl (by omega) rfl rfl
set_option maxHeartbeats 4000000 in
set_option maxRecDepth 20000 in
theorem c_mobjectN (hG : Gok G) {t : Int32} (ht : t < 0) : Ct G mX9_object d [.ref (ga G (40, 0)), .int (t)] M (.inl (some (.long (0)))) (ui M (40, 0) 0 (nI 1)) 0 := by
  refine ct_of hG okX9_object (by decide +kernel) rfl (Nat.le_of_ble_eq_true rfl) ?_
  refine x_iload_n rfl rfl rfl ?_
  refine x_if_lt rfl rfl (fun hc1 => ?_) (fun hc1 => absurd ht hc1)
  refine x_iconstN (b := 0) rfl rfl ?_
  refine x_istore_n rfl rfl rfl rfl ?_
  refine x_aload_n rfl rfl rfl ?_
  refine x_iload_n rfl rfl rfl ?_
  refine x_if_ne rfl rfl (fun hc2 => absurd hc2 (by decide +kernel)) (fun _ => ?_)
  refine x_iconstN (b := 1) rfl rfl ?_
  refine x_goto rfl rfl ?_
  refine x_putI rfl rfl f_9_97 rfl rfl (by decide) rfl ?_
  refine x_aload_n rfl rfl rfl ?_
  refine x_getIv (v := nI 1) (by first | rfl | simp [ui, ul]) rfl rfl f_9_97 rfl (by decide) rfl ?_
  refine x_if_le rfl rfl (fun hc3 => absurd hc3 (by decide +kernel)) (fun _ => ?_)
  refine x_lconst (v := 0) rfl rfl (by decide +kernel) ?_
  refine x_goto rfl rfl ?_
  exact x_retL rfl rfl rfl (by omega) rfl rfl
set_option maxHeartbeats 4000000 in
set_option maxRecDepth 20000 in
theorem c_mobjectO (hG : Gok G) {tn : Nat} (htn : M.1 (40, 0) 3 = nI tn) (htn2 : tn ≤ 12) {t : Nat} (ht : tn ≤ t) (ht2 : t < 2 ^ 31) : Ct G mX9_object d [.ref (ga G (40, 0)), .int (nI t)] M (.inl (some (.long (0)))) (ui M (40, 0) 0 (nI 1)) 0 := by
  refine ct_of hG okX9_object (by decide +kernel) rfl (Nat.le_of_ble_eq_true rfl) ?_
  refine x_iload_n rfl rfl rfl ?_
  refine x_ifN_lt (by omega) rfl rfl (fun hc1 => hc1.elim) (fun hc1 => ?_)
  refine x_iload_n rfl rfl rfl ?_
  refine x_aload_n rfl rfl rfl ?_
  refine x_getIv (v := nI tn) htn rfl rfl f_9_142 rfl (by decide) rfl ?_
  refine x_icmpN_ge (by omega) (by omega) rfl rfl (fun hc2 => ?_) (fun hc2 => absurd hc2 (by omega))
  refine x_iconstN (b := 0) rfl rfl ?_
  refine x_istore_n rfl rfl rfl rfl ?_
  refine x_aload_n rfl rfl rfl ?_
  refine x_iload_n rfl rfl rfl ?_
  refine x_if_ne rfl rfl (fun hc3 => absurd hc3 (by decide +kernel)) (fun _ => ?_)
  refine x_iconstN (b := 1) rfl rfl ?_
  refine x_goto rfl rfl ?_
  refine x_putI rfl rfl f_9_97 rfl rfl (by decide) rfl ?_
  refine x_aload_n rfl rfl rfl ?_
  refine x_getIv (v := nI 1) (by first | rfl | simp [ui, ul]) rfl rfl f_9_97 rfl (by decide) rfl ?_
  refine x_if_le rfl rfl (fun hc4 => absurd hc4 (by decide +kernel)) (fun _ => ?_)
  refine x_lconst (v := 0) rfl rfl (by decide +kernel) ?_
  refine x_goto rfl rfl ?_
  exact x_retL rfl rfl rfl (by omega) rfl rfl
set_option maxHeartbeats 4000000 in
set_option maxRecDepth 20000 in
theorem c_mthings (hG : Gok G) {n : Nat} (hn : M.1 (40, 0) 8 = nI n) (hn2 : n ≤ 40) : Ct G mX9_things d [.ref (ga G (40, 0))] M (.inl (some (.int (nI n)))) (ui M (40, 0) 0 (nI 0)) 0 := by
  refine ct_of hG okX9_things (by decide +kernel) rfl (Nat.le_of_ble_eq_true rfl) ?_
  refine x_aload_n rfl rfl rfl ?_
  refine x_iconstN (b := 0) rfl rfl ?_
  refine x_putI rfl rfl f_9_97 rfl rfl (by decide) rfl ?_
  refine x_aload_n rfl rfl rfl ?_
  refine x_getIv (v := nI n) (by first | exact hn | (rw [← hn]; rfl) | simp [ui, ul, hn]) rfl rfl f_9_121 rfl (by decide) rfl ?_
  exact x_retI rfl rfl rfl (by omega) rfl rfl
set_option maxHeartbeats 4000000 in
set_option maxRecDepth 20000 in
theorem c_msize (hG : Gok G) {rn : Nat} (hr : M.1 (40, 0) 19 = nI rn) (hr2 : rn ≤ 600) : Ct G mX9_size d [.ref (ga G (40, 0))] M (.inl (some (.int (nI rn)))) (ui M (40, 0) 0 (nI 0)) 0 := by
  refine ct_of hG okX9_size (by decide +kernel) rfl (Nat.le_of_ble_eq_true rfl) ?_
  refine x_aload_n rfl rfl rfl ?_
  refine x_iconstN (b := 0) rfl rfl ?_
  refine x_putI rfl rfl f_9_97 rfl rfl (by decide) rfl ?_
  refine x_aload_n rfl rfl rfl ?_
  refine x_getIv (v := nI rn) (by first | exact hr | (rw [← hr]; rfl) | simp [ui, ul, hr]) rfl rfl f_9_232 rfl (by decide) rfl ?_
  exact x_retI rfl rfl rfl (by omega) rfl rfl
set_option maxHeartbeats 4000000 in
set_option maxRecDepth 20000 in
theorem c_mfault (hG : Gok G) : Ct G mX9_fault d [.ref (ga G (40, 0))] M (.inl (some (.int (M.1 (40, 0) 21)))) (ui M (40, 0) 0 (nI 0)) 0 := by
  refine ct_of hG okX9_fault (by decide +kernel) rfl (Nat.le_of_ble_eq_true rfl) ?_
  refine x_aload_n rfl rfl rfl ?_
  refine x_iconstN (b := 0) rfl rfl ?_
  refine x_putI rfl rfl f_9_97 rfl rfl (by decide) rfl ?_
  refine x_aload_n rfl rfl rfl ?_
  refine x_getIv (v := M.1 (40, 0) 21) (by first | rfl | simp [ui, ul]) rfl rfl f_9_90 rfl (by decide) rfl ?_
  exact x_retI rfl rfl rfl (by omega) rfl rfl
set_option maxHeartbeats 4000000 in
set_option maxRecDepth 20000 in
theorem c_mthrown (hG : Gok G) : Ct G mX9_thrown d [.ref (ga G (40, 0))] M (.inl (some (.int (M.1 (40, 0) 0)))) M 0 := by
  refine ct_of hG okX9_thrown (by decide +kernel) rfl (Nat.le_of_ble_eq_true rfl) ?_
  refine x_aload_n rfl rfl rfl ?_
  refine x_getI rfl rfl f_9_97 rfl (by decide) rfl ?_
  exact x_retI rfl rfl rfl (by omega) rfl rfl
set_option maxHeartbeats 4000000 in
set_option maxRecDepth 20000 in
theorem c_mclear (hG : Gok G) : Ct G mX9_clear d [.ref (ga G (40, 0))] M (.inl none) (ui (ui (ui (ui M (40, 0) 0 (nI 0)) (40, 0) 1 (nI 0)) (40, 0) 3 (nI 0)) (40, 0) 8 (nI 0)) 0 := by
  refine ct_of hG okX9_clear (by decide +kernel) rfl (Nat.le_of_ble_eq_true rfl) ?_
  refine x_aload_n rfl rfl rfl ?_
  refine x_iconstN (b := 0) rfl rfl ?_
  refine x_putI rfl rfl f_9_97 rfl rfl (by decide) rfl ?_
  refine x_aload_n rfl rfl rfl ?_
  refine x_iconstN (b := 0) rfl rfl ?_
  refine x_putI rfl rfl f_9_114 rfl rfl (by decide) rfl ?_
  refine x_aload_n rfl rfl rfl ?_
  refine x_iconstN (b := 0) rfl rfl ?_
  refine x_putI rfl rfl f_9_142 rfl rfl (by decide) rfl ?_
  refine x_aload_n rfl rfl rfl ?_
  refine x_iconstN (b := 0) rfl rfl ?_
  refine x_putI rfl rfl f_9_121 rfl rfl (by decide) rfl ?_
  exact x_retV rfl rfl rfl (by omega) rfl rfl
set_option maxHeartbeats 4000000 in
set_option maxRecDepth 20000 in
theorem c_mbyteAt (hG : Gok G) {rn : Nat} (hr : M.1 (40, 0) 19 = nI rn) (hr2 : rn ≤ 600) {j : Nat} (hj : j < rn) : Ct G mX9_byteAt d [.ref (ga G (40, 0)), .int (nI j)] M (.inl (some (.int (M.1 (55, 0) j)))) (ui M (40, 0) 0 (nI 0)) 0 := by
  refine ct_of hG okX9_byteAt (by decide +kernel) rfl (Nat.le_of_ble_eq_true rfl) ?_
  refine x_aload_n rfl rfl rfl ?_
  refine x_iconstN (b := 0) rfl rfl ?_
  refine x_putI rfl rfl f_9_97 rfl rfl (by decide) rfl ?_
  refine x_iload_n rfl rfl rfl ?_
  refine x_ifN_lt (by omega) rfl rfl (fun hc1 => hc1.elim) (fun hc1 => ?_)
  refine x_iload_n rfl rfl rfl ?_
  refine x_aload_n rfl rfl rfl ?_
  refine x_getIv (v := nI rn) (by first | exact hr | (rw [← hr]; rfl) | simp [ui, ul, hr]) rfl rfl f_9_232 rfl (by decide) rfl ?_
  refine x_icmpN_ge (by omega) (by omega) rfl rfl (fun hc2 => absurd hc2 (by omega)) (fun hc2 => ?_)
  refine x_aload_n rfl rfl rfl ?_
  refine x_getR0 rfl rfl f_9_54 rfl (by decide) rfl rfl ?_
  refine x_iload_n rfl rfl rfl ?_
  refine x_ialdv (a := j) (v := M.1 (55, 0) j) (by first | rfl | simp [ui, ul]) rfl rfl rfl (by decide) (by omega) (by decide) ?_
  refine x_goto rfl rfl ?_
  exact x_retI rfl rfl rfl (by omega) rfl rfl
set_option maxHeartbeats 4000000 in
set_option maxRecDepth 20000 in
theorem c_mbyteAtO (hG : Gok G) {rn : Nat} (hr : M.1 (40, 0) 19 = nI rn) (hr2 : rn ≤ 600) {j : Nat} (hj : rn ≤ j) (hj2 : j < 2 ^ 31) : Ct G mX9_byteAt d [.ref (ga G (40, 0)), .int (nI j)] M (.inl (some (.int ((-1))))) (ui M (40, 0) 0 (nI 0)) 0 := by
  refine ct_of hG okX9_byteAt (by decide +kernel) rfl (Nat.le_of_ble_eq_true rfl) ?_
  refine x_aload_n rfl rfl rfl ?_
  refine x_iconstN (b := 0) rfl rfl ?_
  refine x_putI rfl rfl f_9_97 rfl rfl (by decide) rfl ?_
  refine x_iload_n rfl rfl rfl ?_
  refine x_ifN_lt (by omega) rfl rfl (fun hc1 => hc1.elim) (fun hc1 => ?_)
  refine x_iload_n rfl rfl rfl ?_
  refine x_aload_n rfl rfl rfl ?_
  refine x_getIv (v := nI rn) (by first | exact hr | (rw [← hr]; rfl) | simp [ui, ul, hr]) rfl rfl f_9_232 rfl (by decide) rfl ?_
  refine x_icmpN_ge (by omega) (by omega) rfl rfl (fun hc2 => ?_) (fun hc2 => absurd hc2 (by omega))
  refine x_iconst (v := -1) rfl rfl (by decide +kernel) ?_
  exact x_retI rfl rfl rfl (by omega) rfl rfl
set_option maxHeartbeats 4000000 in
set_option maxRecDepth 20000 in
theorem c_mbyteAtN (hG : Gok G) {i : Int32} (hi : i < 0) : Ct G mX9_byteAt d [.ref (ga G (40, 0)), .int (i)] M (.inl (some (.int ((-1))))) (ui M (40, 0) 0 (nI 0)) 0 := by
  refine ct_of hG okX9_byteAt (by decide +kernel) rfl (Nat.le_of_ble_eq_true rfl) ?_
  refine x_aload_n rfl rfl rfl ?_
  refine x_iconstN (b := 0) rfl rfl ?_
  refine x_putI rfl rfl f_9_97 rfl rfl (by decide) rfl ?_
  refine x_iload_n rfl rfl rfl ?_
  refine x_if_lt rfl rfl (fun hc1 => ?_) (fun hc1 => absurd hi hc1)
  refine x_iconst (v := -1) rfl rfl (by decide +kernel) ?_
  exact x_retI rfl rfl rfl (by omega) rfl rfl
set_option maxHeartbeats 4000000 in
set_option maxRecDepth 20000 in
theorem c_mbits (hG : Gok G) {w : Nat} (hw : M.1 (40, 0) 1 = nI w) (hw2 : w ≤ 40) {k : Nat} (hk : k < w) : Ct G mX9_bits d [.ref (ga G (40, 0)), .int (nI k)] M (.inl (some (.long (M.2 (41, 0) k)))) (ui M (40, 0) 0 (nI 0)) 0 := by
  refine ct_of hG okX9_bits (by decide +kernel) rfl (Nat.le_of_ble_eq_true rfl) ?_
  refine x_aload_n rfl rfl rfl ?_
  refine x_iconstN (b := 0) rfl rfl ?_
  refine x_putI rfl rfl f_9_97 rfl rfl (by decide) rfl ?_
  refine x_iload_n rfl rfl rfl ?_
  refine x_ifN_lt (by omega) rfl rfl (fun hc1 => hc1.elim) (fun hc1 => ?_)
  refine x_iload_n rfl rfl rfl ?_
  refine x_aload_n rfl rfl rfl ?_
  refine x_getIv (v := nI w) (by first | exact hw | (rw [← hw]; rfl) | simp [ui, ul, hw]) rfl rfl f_9_114 rfl (by decide) rfl ?_
  refine x_icmpN_ge (by omega) (by omega) rfl rfl (fun hc2 => absurd hc2 (by omega)) (fun hc2 => ?_)
  refine x_aload_n rfl rfl rfl ?_
  refine x_getR0 rfl rfl f_9_7 rfl (by decide) rfl rfl ?_
  refine x_iload_n rfl rfl rfl ?_
  refine x_laldv (a := k) (v := M.2 (41, 0) k) (by first | rfl | simp [ui, ul]) rfl rfl rfl (by decide) (by omega) (by decide) ?_
  refine x_goto rfl rfl ?_
  exact x_retL rfl rfl rfl (by omega) rfl rfl
set_option maxHeartbeats 4000000 in
set_option maxRecDepth 20000 in
theorem c_mbitsO (hG : Gok G) {w : Nat} (hw : M.1 (40, 0) 1 = nI w) (hw2 : w ≤ 40) {k : Nat} (hk : w ≤ k) (hk2 : k < 2 ^ 31) : Ct G mX9_bits d [.ref (ga G (40, 0)), .int (nI k)] M (.inl (some (.long (0)))) (ui M (40, 0) 0 (nI 0)) 0 := by
  refine ct_of hG okX9_bits (by decide +kernel) rfl (Nat.le_of_ble_eq_true rfl) ?_
  refine x_aload_n rfl rfl rfl ?_
  refine x_iconstN (b := 0) rfl rfl ?_
  refine x_putI rfl rfl f_9_97 rfl rfl (by decide) rfl ?_
  refine x_iload_n rfl rfl rfl ?_
  refine x_ifN_lt (by omega) rfl rfl (fun hc1 => hc1.elim) (fun hc1 => ?_)
  refine x_iload_n rfl rfl rfl ?_
  refine x_aload_n rfl rfl rfl ?_
  refine x_getIv (v := nI w) (by first | exact hw | (rw [← hw]; rfl) | simp [ui, ul, hw]) rfl rfl f_9_114 rfl (by decide) rfl ?_
  refine x_icmpN_ge (by omega) (by omega) rfl rfl (fun hc2 => ?_) (fun hc2 => absurd hc2 (by omega))
  refine x_lconst (v := 0) rfl rfl (by decide +kernel) ?_
  exact x_retL rfl rfl rfl (by omega) rfl rfl
set_option maxHeartbeats 4000000 in
set_option maxRecDepth 20000 in
theorem c_mbitsN (hG : Gok G) {i : Int32} (hi : i < 0) : Ct G mX9_bits d [.ref (ga G (40, 0)), .int (i)] M (.inl (some (.long (0)))) (ui M (40, 0) 0 (nI 0)) 0 := by
  refine ct_of hG okX9_bits (by decide +kernel) rfl (Nat.le_of_ble_eq_true rfl) ?_
  refine x_aload_n rfl rfl rfl ?_
  refine x_iconstN (b := 0) rfl rfl ?_
  refine x_putI rfl rfl f_9_97 rfl rfl (by decide) rfl ?_
  refine x_iload_n rfl rfl rfl ?_
  refine x_if_lt rfl rfl (fun hc1 => ?_) (fun hc1 => absurd hi hc1)
  refine x_lconst (v := 0) rfl rfl (by decide +kernel) ?_
  exact x_retL rfl rfl rfl (by omega) rfl rfl
set_option maxHeartbeats 4000000 in
set_option maxRecDepth 20000 in
theorem c_mcut (hG : Gok G) {rn : Nat} (hr : M.1 (40, 0) 19 = nI rn) (hr2 : rn ≤ 600) {j : Nat} (hj : j ≤ rn) : Ct G mX9_cut d [.ref (ga G (40, 0)), .int (nI j)] M (.inl (some (.int (nI 1)))) (ui (ui M (40, 0) 0 (nI 0)) (40, 0) 19 (nI j)) 0 := by
  refine ct_of hG okX9_cut (by decide +kernel) rfl (Nat.le_of_ble_eq_true rfl) ?_
  refine x_aload_n rfl rfl rfl ?_
  refine x_iconstN (b := 0) rfl rfl ?_
  refine x_putI rfl rfl f_9_97 rfl rfl (by decide) rfl ?_
  refine x_iload_n rfl rfl rfl ?_
  refine x_ifN_lt (by omega) rfl rfl (fun hc1 => hc1.elim) (fun hc1 => ?_)
  refine x_iload_n rfl rfl rfl ?_
  refine x_aload_n rfl rfl rfl ?_
  refine x_getIv (v := nI rn) (by first | exact hr | (rw [← hr]; rfl) | simp [ui, ul, hr]) rfl rfl f_9_232 rfl (by decide) rfl ?_
  refine x_icmpN_le (by omega) (by omega) rfl rfl (fun hc2 => ?_) (fun hc2 => absurd hc2 (by omega))
  refine x_aload_n rfl rfl rfl ?_
  refine x_iload_n rfl rfl rfl ?_
  refine x_putI rfl rfl f_9_232 rfl rfl (by decide) rfl ?_
  refine x_iconstN (b := 1) rfl rfl ?_
  exact x_retZ rfl rfl rfl (by first | exact Or.inl rfl | exact Or.inr rfl) (by omega) rfl rfl
set_option maxHeartbeats 4000000 in
set_option maxRecDepth 20000 in
theorem c_mcutO (hG : Gok G) {rn : Nat} (hr : M.1 (40, 0) 19 = nI rn) (hr2 : rn ≤ 600) {j : Nat} (hj : rn < j) (hj2 : j < 2 ^ 31) : Ct G mX9_cut d [.ref (ga G (40, 0)), .int (nI j)] M (.inl (some (.int (nI 0)))) (ui M (40, 0) 0 (nI 0)) 0 := by
  refine ct_of hG okX9_cut (by decide +kernel) rfl (Nat.le_of_ble_eq_true rfl) ?_
  refine x_aload_n rfl rfl rfl ?_
  refine x_iconstN (b := 0) rfl rfl ?_
  refine x_putI rfl rfl f_9_97 rfl rfl (by decide) rfl ?_
  refine x_iload_n rfl rfl rfl ?_
  refine x_ifN_lt (by omega) rfl rfl (fun hc1 => hc1.elim) (fun hc1 => ?_)
  refine x_iload_n rfl rfl rfl ?_
  refine x_aload_n rfl rfl rfl ?_
  refine x_getIv (v := nI rn) (by first | exact hr | (rw [← hr]; rfl) | simp [ui, ul, hr]) rfl rfl f_9_232 rfl (by decide) rfl ?_
  refine x_icmpN_le (by omega) (by omega) rfl rfl (fun hc2 => absurd hc2 (by omega)) (fun hc2 => ?_)
  refine x_iconstN (b := 0) rfl rfl ?_
  exact x_retZ rfl rfl rfl (by first | exact Or.inl rfl | exact Or.inr rfl) (by omega) rfl rfl
set_option maxHeartbeats 4000000 in
set_option maxRecDepth 20000 in
theorem c_mcutN (hG : Gok G) {i : Int32} (hi : i < 0) : Ct G mX9_cut d [.ref (ga G (40, 0)), .int (i)] M (.inl (some (.int (nI 0)))) (ui M (40, 0) 0 (nI 0)) 0 := by
  refine ct_of hG okX9_cut (by decide +kernel) rfl (Nat.le_of_ble_eq_true rfl) ?_
  refine x_aload_n rfl rfl rfl ?_
  refine x_iconstN (b := 0) rfl rfl ?_
  refine x_putI rfl rfl f_9_97 rfl rfl (by decide) rfl ?_
  refine x_iload_n rfl rfl rfl ?_
  refine x_if_lt rfl rfl (fun hc1 => ?_) (fun hc1 => absurd hi hc1)
  refine x_iconstN (b := 0) rfl rfl ?_
  exact x_retZ rfl rfl rfl (by first | exact Or.inl rfl | exact Or.inr rfl) (by omega) rfl rfl
set_option maxHeartbeats 4000000 in
set_option maxRecDepth 20000 in
theorem c_malter (hG : Gok G) {rn : Nat} (hr : M.1 (40, 0) 19 = nI rn) (hr2 : rn ≤ 600) {j x : Nat} (hj : j < rn) (hx : x ≤ 255) : Ct G mX9_alter d [.ref (ga G (40, 0)), .int (nI j), .int (nI x)] M (.inl (some (.int (nI 1)))) (ui (ui (ui M (40, 0) 0 (nI 0)) (55, 0) j (nI x)) (40, 0) 19 (nI rn)) 0 := by
  refine ct_of hG okX9_alter (by decide +kernel) rfl (Nat.le_of_ble_eq_true rfl) ?_
  refine x_aload_n rfl rfl rfl ?_
  refine x_iconstN (b := 0) rfl rfl ?_
  refine x_putI rfl rfl f_9_97 rfl rfl (by decide) rfl ?_
  refine x_iload_n rfl rfl rfl ?_
  refine x_ifN_lt (by omega) rfl rfl (fun hc1 => hc1.elim) (fun hc1 => ?_)
  refine x_iload_n rfl rfl rfl ?_
  refine x_aload_n rfl rfl rfl ?_
  refine x_getIv (v := nI rn) (by first | exact hr | (rw [← hr]; rfl) | simp [ui, ul, hr]) rfl rfl f_9_232 rfl (by decide) rfl ?_
  refine x_icmpN_gt (by omega) (by omega) rfl rfl (fun hc2 => absurd hc2 (by omega)) (fun hc2 => ?_)
  refine x_iload_n rfl rfl rfl ?_
  refine x_sipush (v := nI 600) rfl rfl (by decide +kernel) ?_
  refine x_icmpN_eq (by omega) (by omega) rfl rfl (fun hc3 => absurd hc3 (by omega)) (fun hc3 => ?_)
  refine x_iload_n rfl rfl rfl ?_
  refine x_ifN_lt (by omega) rfl rfl (fun hc4 => hc4.elim) (fun hc4 => ?_)
  refine x_iload_n rfl rfl rfl ?_
  refine x_sipush (v := nI 255) rfl rfl (by decide +kernel) ?_
  refine x_icmpN_le (by omega) (by omega) rfl rfl (fun hc5 => ?_) (fun hc5 => absurd hc5 (by omega))
  refine x_aload_n rfl rfl rfl ?_
  refine x_getR0 rfl rfl f_9_54 rfl (by decide) rfl rfl ?_
  refine x_iload_n rfl rfl rfl ?_
  refine x_iload_n rfl rfl rfl ?_
  refine x_iast (a := j) rfl rfl rfl (by decide) (by omega) (by decide) ?_
  refine x_aload_n rfl rfl rfl ?_
  refine x_iload_n rfl rfl rfl ?_
  refine x_aload_n rfl rfl rfl ?_
  refine x_getIv (v := nI rn) (by first | exact hr | (rw [← hr]; rfl) | simp [ui, ul, hr]) rfl rfl f_9_232 rfl (by decide) rfl ?_
  refine x_icmpN_ne (by omega) (by omega) rfl rfl (fun hc6 => ?_) (fun hc6 => absurd hc6 (by omega))
  refine x_aload_n rfl rfl rfl ?_
  refine x_getIv (v := nI rn) (by first | exact hr | (rw [← hr]; rfl) | simp [ui, ul, hr]) rfl rfl f_9_232 rfl (by decide) rfl ?_
  refine x_putI rfl rfl f_9_232 rfl rfl (by decide) rfl ?_
  refine x_iconstN (b := 1) rfl rfl ?_
  exact x_retZ rfl rfl rfl (by first | exact Or.inl rfl | exact Or.inr rfl) (by omega) rfl rfl
set_option maxHeartbeats 4000000 in
set_option maxRecDepth 20000 in
theorem c_malterE (hG : Gok G) {rn : Nat} (hr : M.1 (40, 0) 19 = nI rn) (hr2 : rn ≤ 600) {x : Nat} (hj6 : rn < 600) (hx : x ≤ 255) : Ct G mX9_alter d [.ref (ga G (40, 0)), .int (nI rn), .int (nI x)] M (.inl (some (.int (nI 1)))) (ui (ui (ui M (40, 0) 0 (nI 0)) (55, 0) rn (nI x)) (40, 0) 19 (nI (rn + 1))) 0 := by
  refine ct_of hG okX9_alter (by decide +kernel) rfl (Nat.le_of_ble_eq_true rfl) ?_
  refine x_aload_n rfl rfl rfl ?_
  refine x_iconstN (b := 0) rfl rfl ?_
  refine x_putI rfl rfl f_9_97 rfl rfl (by decide) rfl ?_
  refine x_iload_n rfl rfl rfl ?_
  refine x_ifN_lt (by omega) rfl rfl (fun hc1 => hc1.elim) (fun hc1 => ?_)
  refine x_iload_n rfl rfl rfl ?_
  refine x_aload_n rfl rfl rfl ?_
  refine x_getIv (v := nI rn) (by first | exact hr | (rw [← hr]; rfl) | simp [ui, ul, hr]) rfl rfl f_9_232 rfl (by decide) rfl ?_
  refine x_icmpN_gt (by omega) (by omega) rfl rfl (fun hc2 => absurd hc2 (by omega)) (fun hc2 => ?_)
  refine x_iload_n rfl rfl rfl ?_
  refine x_sipush (v := nI 600) rfl rfl (by decide +kernel) ?_
  refine x_icmpN_eq (by omega) (by omega) rfl rfl (fun hc3 => absurd hc3 (by omega)) (fun hc3 => ?_)
  refine x_iload_n rfl rfl rfl ?_
  refine x_ifN_lt (by omega) rfl rfl (fun hc4 => hc4.elim) (fun hc4 => ?_)
  refine x_iload_n rfl rfl rfl ?_
  refine x_sipush (v := nI 255) rfl rfl (by decide +kernel) ?_
  refine x_icmpN_le (by omega) (by omega) rfl rfl (fun hc5 => ?_) (fun hc5 => absurd hc5 (by omega))
  refine x_aload_n rfl rfl rfl ?_
  refine x_getR0 rfl rfl f_9_54 rfl (by decide) rfl rfl ?_
  refine x_iload_n rfl rfl rfl ?_
  refine x_iload_n rfl rfl rfl ?_
  refine x_iast (a := rn) rfl rfl rfl (by decide) (by omega) (by decide) ?_
  refine x_aload_n rfl rfl rfl ?_
  refine x_iload_n rfl rfl rfl ?_
  refine x_aload_n rfl rfl rfl ?_
  refine x_getIv (v := nI rn) (by first | exact hr | (rw [← hr]; rfl) | simp [ui, ul, hr]) rfl rfl f_9_232 rfl (by decide) rfl ?_
  refine x_icmpN_ne (by omega) (by omega) rfl rfl (fun hc6 => absurd rfl hc6) (fun hc6 => ?_)
  refine x_aload_n rfl rfl rfl ?_
  refine x_getIv (v := nI rn) (by first | exact hr | (rw [← hr]; rfl) | simp [ui, ul, hr]) rfl rfl f_9_232 rfl (by decide) rfl ?_
  refine x_iconstN (b := 1) rfl rfl ?_
  refine x_iaddN (a := rn) (b := 1) rfl rfl ?_
  refine x_goto rfl rfl ?_
  refine x_putI rfl rfl f_9_232 rfl rfl (by decide) rfl ?_
  refine x_iconstN (b := 1) rfl rfl ?_
  exact x_retZ rfl rfl rfl (by first | exact Or.inl rfl | exact Or.inr rfl) (by omega) rfl rfl
set_option maxHeartbeats 4000000 in
set_option maxRecDepth 20000 in
theorem c_malterI (hG : Gok G) {i b : Int32} (hi : i < 0) : Ct G mX9_alter d [.ref (ga G (40, 0)), .int (i), .int (b)] M (.inl (some (.int (nI 0)))) (ui M (40, 0) 0 (nI 0)) 0 := by
  refine ct_of hG okX9_alter (by decide +kernel) rfl (Nat.le_of_ble_eq_true rfl) ?_
  refine x_aload_n rfl rfl rfl ?_
  refine x_iconstN (b := 0) rfl rfl ?_
  refine x_putI rfl rfl f_9_97 rfl rfl (by decide) rfl ?_
  refine x_iload_n rfl rfl rfl ?_
  refine x_if_lt rfl rfl (fun hc1 => ?_) (fun hc1 => absurd hi hc1)
  refine x_iconstN (b := 0) rfl rfl ?_
  exact x_retZ rfl rfl rfl (by first | exact Or.inl rfl | exact Or.inr rfl) (by omega) rfl rfl
set_option maxHeartbeats 4000000 in
set_option maxRecDepth 20000 in
theorem c_malterO (hG : Gok G) {rn : Nat} (hr : M.1 (40, 0) 19 = nI rn) (hr2 : rn ≤ 600) {j : Nat} {b : Int32} (hj : rn < j) (hj2 : j < 2 ^ 31) : Ct G mX9_alter d [.ref (ga G (40, 0)), .int (nI j), .int (b)] M (.inl (some (.int (nI 0)))) (ui M (40, 0) 0 (nI 0)) 0 := by
  refine ct_of hG okX9_alter (by decide +kernel) rfl (Nat.le_of_ble_eq_true rfl) ?_
  refine x_aload_n rfl rfl rfl ?_
  refine x_iconstN (b := 0) rfl rfl ?_
  refine x_putI rfl rfl f_9_97 rfl rfl (by decide) rfl ?_
  refine x_iload_n rfl rfl rfl ?_
  refine x_ifN_lt (by omega) rfl rfl (fun hc1 => hc1.elim) (fun hc1 => ?_)
  refine x_iload_n rfl rfl rfl ?_
  refine x_aload_n rfl rfl rfl ?_
  refine x_getIv (v := nI rn) (by first | exact hr | (rw [← hr]; rfl) | simp [ui, ul, hr]) rfl rfl f_9_232 rfl (by decide) rfl ?_
  refine x_icmpN_gt (by omega) (by omega) rfl rfl (fun hc2 => ?_) (fun hc2 => absurd hc2 (by omega))
  refine x_iconstN (b := 0) rfl rfl ?_
  exact x_retZ rfl rfl rfl (by first | exact Or.inl rfl | exact Or.inr rfl) (by omega) rfl rfl
set_option maxHeartbeats 4000000 in
set_option maxRecDepth 20000 in
theorem c_malterF (hG : Gok G) {rn : Nat} (hr : M.1 (40, 0) 19 = nI rn) (hr2 : rn ≤ 600) {b : Int32} (hj : 600 ≤ rn) : Ct G mX9_alter d [.ref (ga G (40, 0)), .int (nI 600), .int (b)] M (.inl (some (.int (nI 0)))) (ui M (40, 0) 0 (nI 0)) 0 := by
  refine ct_of hG okX9_alter (by decide +kernel) rfl (Nat.le_of_ble_eq_true rfl) ?_
  refine x_aload_n rfl rfl rfl ?_
  refine x_iconstN (b := 0) rfl rfl ?_
  refine x_putI rfl rfl f_9_97 rfl rfl (by decide) rfl ?_
  refine x_iload_n rfl rfl rfl ?_
  refine x_if_lt rfl rfl (fun hc1 => absurd hc1 (by decide +kernel)) (fun _ => ?_)
  refine x_iload_n rfl rfl rfl ?_
  refine x_aload_n rfl rfl rfl ?_
  refine x_getIv (v := nI rn) (by first | exact hr | (rw [← hr]; rfl) | simp [ui, ul, hr]) rfl rfl f_9_232 rfl (by decide) rfl ?_
  refine x_icmpN_gt (by omega) (by omega) rfl rfl (fun hc2 => absurd hc2 (by omega)) (fun hc2 => ?_)
  refine x_iload_n rfl rfl rfl ?_
  refine x_sipush (v := nI 600) rfl rfl (by decide +kernel) ?_
  refine x_icmpN_eq (by omega) (by omega) rfl rfl (fun hc3 => ?_) (fun hc3 => absurd hc3 (by omega))
  refine x_iconstN (b := 0) rfl rfl ?_
  exact x_retZ rfl rfl rfl (by first | exact Or.inl rfl | exact Or.inr rfl) (by omega) rfl rfl
set_option maxHeartbeats 4000000 in
set_option maxRecDepth 20000 in
theorem c_malterB (hG : Gok G) {rn : Nat} (hr : M.1 (40, 0) 19 = nI rn) (hr2 : rn ≤ 600) {j : Nat} {b : Int32} (hj : j ≤ rn) (hj6 : j < 600) (hb : b < 0) : Ct G mX9_alter d [.ref (ga G (40, 0)), .int (nI j), .int (b)] M (.inl (some (.int (nI 0)))) (ui M (40, 0) 0 (nI 0)) 0 := by
  refine ct_of hG okX9_alter (by decide +kernel) rfl (Nat.le_of_ble_eq_true rfl) ?_
  refine x_aload_n rfl rfl rfl ?_
  refine x_iconstN (b := 0) rfl rfl ?_
  refine x_putI rfl rfl f_9_97 rfl rfl (by decide) rfl ?_
  refine x_iload_n rfl rfl rfl ?_
  refine x_ifN_lt (by omega) rfl rfl (fun hc1 => hc1.elim) (fun hc1 => ?_)
  refine x_iload_n rfl rfl rfl ?_
  refine x_aload_n rfl rfl rfl ?_
  refine x_getIv (v := nI rn) (by first | exact hr | (rw [← hr]; rfl) | simp [ui, ul, hr]) rfl rfl f_9_232 rfl (by decide) rfl ?_
  refine x_icmpN_gt (by omega) (by omega) rfl rfl (fun hc2 => absurd hc2 (by omega)) (fun hc2 => ?_)
  refine x_iload_n rfl rfl rfl ?_
  refine x_sipush (v := nI 600) rfl rfl (by decide +kernel) ?_
  refine x_icmpN_eq (by omega) (by omega) rfl rfl (fun hc3 => absurd hc3 (by omega)) (fun hc3 => ?_)
  refine x_iload_n rfl rfl rfl ?_
  refine x_if_lt rfl rfl (fun hc4 => ?_) (fun hc4 => absurd hb hc4)
  refine x_iconstN (b := 0) rfl rfl ?_
  exact x_retZ rfl rfl rfl (by first | exact Or.inl rfl | exact Or.inr rfl) (by omega) rfl rfl
set_option maxHeartbeats 4000000 in
set_option maxRecDepth 20000 in
theorem c_malterC (hG : Gok G) {rn : Nat} (hr : M.1 (40, 0) 19 = nI rn) (hr2 : rn ≤ 600) {j x : Nat} (hj : j ≤ rn) (hj6 : j < 600) (hx : 255 < x) (hx2 : x < 2 ^ 31) : Ct G mX9_alter d [.ref (ga G (40, 0)), .int (nI j), .int (nI x)] M (.inl (some (.int (nI 0)))) (ui M (40, 0) 0 (nI 0)) 0 := by
  refine ct_of hG okX9_alter (by decide +kernel) rfl (Nat.le_of_ble_eq_true rfl) ?_
  refine x_aload_n rfl rfl rfl ?_
  refine x_iconstN (b := 0) rfl rfl ?_
  refine x_putI rfl rfl f_9_97 rfl rfl (by decide) rfl ?_
  refine x_iload_n rfl rfl rfl ?_
  refine x_ifN_lt (by omega) rfl rfl (fun hc1 => hc1.elim) (fun hc1 => ?_)
  refine x_iload_n rfl rfl rfl ?_
  refine x_aload_n rfl rfl rfl ?_
  refine x_getIv (v := nI rn) (by first | exact hr | (rw [← hr]; rfl) | simp [ui, ul, hr]) rfl rfl f_9_232 rfl (by decide) rfl ?_
  refine x_icmpN_gt (by omega) (by omega) rfl rfl (fun hc2 => absurd hc2 (by omega)) (fun hc2 => ?_)
  refine x_iload_n rfl rfl rfl ?_
  refine x_sipush (v := nI 600) rfl rfl (by decide +kernel) ?_
  refine x_icmpN_eq (by omega) (by omega) rfl rfl (fun hc3 => absurd hc3 (by omega)) (fun hc3 => ?_)
  refine x_iload_n rfl rfl rfl ?_
  refine x_ifN_lt (by omega) rfl rfl (fun hc4 => hc4.elim) (fun hc4 => ?_)
  refine x_iload_n rfl rfl rfl ?_
  refine x_sipush (v := nI 255) rfl rfl (by decide +kernel) ?_
  refine x_icmpN_le (by omega) (by omega) rfl rfl (fun hc5 => absurd hc5 (by omega)) (fun hc5 => ?_)
  refine x_iconstN (b := 0) rfl rfl ?_
  exact x_retZ rfl rfl rfl (by first | exact Or.inl rfl | exact Or.inr rfl) (by omega) rfl rfl
set_option maxHeartbeats 4000000 in
set_option maxRecDepth 20000 in
theorem c_mkind (hG : Gok G) (hd : 1 ≤ d) {n : Nat} (hn : M.1 (40, 0) 8 = nI n) (hn2 : n ≤ 40) {i : Nat} (hi : i < n) {kd : Nat} (hkd : M.1 (46, 0) i = nI kd) : Ct G mX9_kind d [.ref (ga G (40, 0)), .int (nI i)] M (.inl (some (.int (nI kd)))) (ui M (40, 0) 0 (nI 0)) 0 := by
  refine ct_of hG okX9_kind (by decide +kernel) rfl (Nat.le_of_ble_eq_true rfl) ?_
  refine x_aload_n rfl rfl rfl ?_
  refine x_iconstN (b := 0) rfl rfl ?_
  refine x_putI rfl rfl f_9_97 rfl rfl (by decide) rfl ?_
  refine x_aload_n rfl rfl rfl ?_
  refine x_iload_n rfl rfl rfl ?_
  refine x_callVi (d2 := 0) (c_misThing (n := n) hG (by first | exact hn | (rw [← hn]; rfl) | simp [ui, ul, hn]) (by omega) (by omega)) rfl rfl v_9_152 rfl rfl (by decide) rfl rfl (Nat.le_of_ble_eq_true rfl) (by omega) (by omega) ?_
  refine x_if_eq rfl rfl (fun hc1 => absurd hc1 (by decide +kernel)) (fun _ => ?_)
  refine x_aload_n rfl rfl rfl ?_
  refine x_getR0 rfl rfl f_9_27 rfl (by decide) rfl rfl ?_
  refine x_iload_n rfl rfl rfl ?_
  refine x_ialdv (a := i) (v := nI kd) (by first | exact hkd | (rw [← hkd]; rfl) | simp [ui, ul, hkd]) rfl rfl rfl (by decide) (by omega) (by decide) ?_
  refine x_goto rfl rfl ?_
  exact x_retI rfl rfl rfl (by omega) rfl rfl
set_option maxHeartbeats 4000000 in
set_option maxRecDepth 20000 in
theorem c_mkindO (hG : Gok G) (hd : 1 ≤ d) {n : Nat} (hn : M.1 (40, 0) 8 = nI n) (hn2 : n ≤ 40) {th : Int32} (ho : ∀ i, i < n → th ≠ nI i) : Ct G mX9_kind d [.ref (ga G (40, 0)), .int (th)] M (.inl (some (.int ((-1))))) (ui M (40, 0) 0 (nI 0)) 0 := by
  refine ct_of hG okX9_kind (by decide +kernel) rfl (Nat.le_of_ble_eq_true rfl) ?_
  refine x_aload_n rfl rfl rfl ?_
  refine x_iconstN (b := 0) rfl rfl ?_
  refine x_putI rfl rfl f_9_97 rfl rfl (by decide) rfl ?_
  refine x_aload_n rfl rfl rfl ?_
  refine x_iload_n rfl rfl rfl ?_
  refine x_callVi (d2 := 0) (c_misThingO (n := n) hG (by first | exact hn | (rw [← hn]; rfl) | simp [ui, ul, hn]) hn2 ho) rfl rfl v_9_152 rfl rfl (by decide) rfl rfl (Nat.le_of_ble_eq_true rfl) (by omega) (by omega) ?_
  refine x_if_eq rfl rfl (fun _ => ?_) (fun hc1 => absurd hc1 (by decide +kernel))
  refine x_iconst (v := -1) rfl rfl (by decide +kernel) ?_
  exact x_retI rfl rfl rfl (by omega) rfl rfl
set_option maxHeartbeats 4000000 in
set_option maxRecDepth 20000 in
theorem c_mcount (hG : Gok G) (hd : 1 ≤ d) {n : Nat} (hn : M.1 (40, 0) 8 = nI n) (hn2 : n ≤ 40) {i : Nat} (hi : i < n) {il : Nat} (hil : M.1 (48, 0) i = nI il) : Ct G mX9_count d [.ref (ga G (40, 0)), .int (nI i)] M (.inl (some (.int (nI il)))) (ui M (40, 0) 0 (nI 0)) 0 := by
  refine ct_of hG okX9_count (by decide +kernel) rfl (Nat.le_of_ble_eq_true rfl) ?_
  refine x_aload_n rfl rfl rfl ?_
  refine x_iconstN (b := 0) rfl rfl ?_
  refine x_putI rfl rfl f_9_97 rfl rfl (by decide) rfl ?_
  refine x_aload_n rfl rfl rfl ?_
  refine x_iload_n rfl rfl rfl ?_
  refine x_callVi (d2 := 0) (c_misThing (n := n) hG (by first | exact hn | (rw [← hn]; rfl) | simp [ui, ul, hn]) (by omega) (by omega)) rfl rfl v_9_152 rfl rfl (by decide) rfl rfl (Nat.le_of_ble_eq_true rfl) (by omega) (by omega) ?_
  refine x_if_eq rfl rfl (fun hc1 => absurd hc1 (by decide +kernel)) (fun _ => ?_)
  refine x_aload_n rfl rfl rfl ?_
  refine x_getR0 rfl rfl f_9_33 rfl (by decide) rfl rfl ?_
  refine x_iload_n rfl rfl rfl ?_
  refine x_ialdv (a := i) (v := nI il) (by first | exact hil | (rw [← hil]; rfl) | simp [ui, ul, hil]) rfl rfl rfl (by decide) (by omega) (by decide) ?_
  refine x_goto rfl rfl ?_
  exact x_retI rfl rfl rfl (by omega) rfl rfl
set_option maxHeartbeats 4000000 in
set_option maxRecDepth 20000 in
theorem c_mcountO (hG : Gok G) (hd : 1 ≤ d) {n : Nat} (hn : M.1 (40, 0) 8 = nI n) (hn2 : n ≤ 40) {th : Int32} (ho : ∀ i, i < n → th ≠ nI i) : Ct G mX9_count d [.ref (ga G (40, 0)), .int (th)] M (.inl (some (.int ((-1))))) (ui M (40, 0) 0 (nI 0)) 0 := by
  refine ct_of hG okX9_count (by decide +kernel) rfl (Nat.le_of_ble_eq_true rfl) ?_
  refine x_aload_n rfl rfl rfl ?_
  refine x_iconstN (b := 0) rfl rfl ?_
  refine x_putI rfl rfl f_9_97 rfl rfl (by decide) rfl ?_
  refine x_aload_n rfl rfl rfl ?_
  refine x_iload_n rfl rfl rfl ?_
  refine x_callVi (d2 := 0) (c_misThingO (n := n) hG (by first | exact hn | (rw [← hn]; rfl) | simp [ui, ul, hn]) hn2 ho) rfl rfl v_9_152 rfl rfl (by decide) rfl rfl (Nat.le_of_ble_eq_true rfl) (by omega) (by omega) ?_
  refine x_if_eq rfl rfl (fun _ => ?_) (fun hc1 => absurd hc1 (by decide +kernel))
  refine x_iconst (v := -1) rfl rfl (by decide +kernel) ?_
  exact x_retI rfl rfl rfl (by omega) rfl rfl
set_option maxHeartbeats 4000000 in
set_option maxRecDepth 20000 in
theorem c_mpairs (hG : Gok G) (hd : 1 ≤ d) {n : Nat} (hn : M.1 (40, 0) 8 = nI n) (hn2 : n ≤ 40) {i : Nat} (hi : i < n) {kl : Nat} (hkl : M.1 (51, 0) i = nI kl) : Ct G mX9_pairs d [.ref (ga G (40, 0)), .int (nI i)] M (.inl (some (.int (nI kl)))) (ui M (40, 0) 0 (nI 0)) 0 := by
  refine ct_of hG okX9_pairs (by decide +kernel) rfl (Nat.le_of_ble_eq_true rfl) ?_
  refine x_aload_n rfl rfl rfl ?_
  refine x_iconstN (b := 0) rfl rfl ?_
  refine x_putI rfl rfl f_9_97 rfl rfl (by decide) rfl ?_
  refine x_aload_n rfl rfl rfl ?_
  refine x_iload_n rfl rfl rfl ?_
  refine x_callVi (d2 := 0) (c_misThing (n := n) hG (by first | exact hn | (rw [← hn]; rfl) | simp [ui, ul, hn]) (by omega) (by omega)) rfl rfl v_9_152 rfl rfl (by decide) rfl rfl (Nat.le_of_ble_eq_true rfl) (by omega) (by omega) ?_
  refine x_if_eq rfl rfl (fun hc1 => absurd hc1 (by decide +kernel)) (fun _ => ?_)
  refine x_aload_n rfl rfl rfl ?_
  refine x_getR0 rfl rfl f_9_42 rfl (by decide) rfl rfl ?_
  refine x_iload_n rfl rfl rfl ?_
  refine x_ialdv (a := i) (v := nI kl) (by first | exact hkl | (rw [← hkl]; rfl) | simp [ui, ul, hkl]) rfl rfl rfl (by decide) (by omega) (by decide) ?_
  refine x_goto rfl rfl ?_
  exact x_retI rfl rfl rfl (by omega) rfl rfl
set_option maxHeartbeats 4000000 in
set_option maxRecDepth 20000 in
theorem c_mpairsO (hG : Gok G) (hd : 1 ≤ d) {n : Nat} (hn : M.1 (40, 0) 8 = nI n) (hn2 : n ≤ 40) {th : Int32} (ho : ∀ i, i < n → th ≠ nI i) : Ct G mX9_pairs d [.ref (ga G (40, 0)), .int (th)] M (.inl (some (.int (nI 0)))) (ui M (40, 0) 0 (nI 0)) 0 := by
  refine ct_of hG okX9_pairs (by decide +kernel) rfl (Nat.le_of_ble_eq_true rfl) ?_
  refine x_aload_n rfl rfl rfl ?_
  refine x_iconstN (b := 0) rfl rfl ?_
  refine x_putI rfl rfl f_9_97 rfl rfl (by decide) rfl ?_
  refine x_aload_n rfl rfl rfl ?_
  refine x_iload_n rfl rfl rfl ?_
  refine x_callVi (d2 := 0) (c_misThingO (n := n) hG (by first | exact hn | (rw [← hn]; rfl) | simp [ui, ul, hn]) hn2 ho) rfl rfl v_9_152 rfl rfl (by decide) rfl rfl (Nat.le_of_ble_eq_true rfl) (by omega) (by omega) ?_
  refine x_if_eq rfl rfl (fun _ => ?_) (fun hc1 => absurd hc1 (by decide +kernel))
  refine x_iconstN (b := 0) rfl rfl ?_
  exact x_retI rfl rfl rfl (by omega) rfl rfl
set_option maxHeartbeats 4000000 in
set_option maxRecDepth 20000 in
theorem c_mtraitsOf (hG : Gok G) (hd : 1 ≤ d) {n : Nat} (hn : M.1 (40, 0) 8 = nI n) (hn2 : n ≤ 40) {i : Nat} (hi : i < n) (hkd : M.1 (46, 0) i = nI 10) : Ct G mX9_traitsOf d [.ref (ga G (40, 0)), .int (nI i)] M (.inl (some (.int (M.1 (49, 0) i)))) (ui M (40, 0) 0 (nI 0)) 0 := by
  refine ct_of hG okX9_traitsOf (by decide +kernel) rfl (Nat.le_of_ble_eq_true rfl) ?_
  refine x_aload_n rfl rfl rfl ?_
  refine x_iconstN (b := 0) rfl rfl ?_
  refine x_putI rfl rfl f_9_97 rfl rfl (by decide) rfl ?_
  refine x_aload_n rfl rfl rfl ?_
  refine x_iload_n rfl rfl rfl ?_
  refine x_callVi (d2 := 0) (c_misThing (n := n) hG (by first | exact hn | (rw [← hn]; rfl) | simp [ui, ul, hn]) (by omega) (by omega)) rfl rfl v_9_152 rfl rfl (by decide) rfl rfl (Nat.le_of_ble_eq_true rfl) (by omega) (by omega) ?_
  refine x_if_eq rfl rfl (fun hc1 => absurd hc1 (by decide +kernel)) (fun _ => ?_)
  refine x_aload_n rfl rfl rfl ?_
  refine x_getR0 rfl rfl f_9_27 rfl (by decide) rfl rfl ?_
  refine x_iload_n rfl rfl rfl ?_
  refine x_ialdv (a := i) (v := nI 10) (by first | exact hkd | (rw [← hkd]; rfl) | simp [ui, ul, hkd]) rfl rfl rfl (by decide) (by omega) (by decide) ?_
  refine x_bipush (v := nI 10) rfl rfl (by decide +kernel) ?_
  refine x_icmpN_ne (by omega) (by omega) rfl rfl (fun hc2 => absurd hc2 (by omega)) (fun hc2 => ?_)
  refine x_aload_n rfl rfl rfl ?_
  refine x_getR0 rfl rfl f_9_36 rfl (by decide) rfl rfl ?_
  refine x_iload_n rfl rfl rfl ?_
  refine x_ialdv (a := i) (v := M.1 (49, 0) i) (by first | rfl | simp [ui, ul]) rfl rfl rfl (by decide) (by omega) (by decide) ?_
  refine x_goto rfl rfl ?_
  exact x_retI rfl rfl rfl (by omega) rfl rfl
set_option maxHeartbeats 4000000 in
set_option maxRecDepth 20000 in
theorem c_mtraitsOfK (hG : Gok G) (hd : 1 ≤ d) {n : Nat} (hn : M.1 (40, 0) 8 = nI n) (hn2 : n ≤ 40) {i : Nat} (hi : i < n) {kd : Nat} (hkd : M.1 (46, 0) i = nI kd) (hkd2 : kd < 16) (hne : kd ≠ 10) : Ct G mX9_traitsOf d [.ref (ga G (40, 0)), .int (nI i)] M (.inl (some (.int ((-1))))) (ui M (40, 0) 0 (nI 0)) 0 := by
  refine ct_of hG okX9_traitsOf (by decide +kernel) rfl (Nat.le_of_ble_eq_true rfl) ?_
  refine x_aload_n rfl rfl rfl ?_
  refine x_iconstN (b := 0) rfl rfl ?_
  refine x_putI rfl rfl f_9_97 rfl rfl (by decide) rfl ?_
  refine x_aload_n rfl rfl rfl ?_
  refine x_iload_n rfl rfl rfl ?_
  refine x_callVi (d2 := 0) (c_misThing (n := n) hG (by first | exact hn | (rw [← hn]; rfl) | simp [ui, ul, hn]) (by omega) (by omega)) rfl rfl v_9_152 rfl rfl (by decide) rfl rfl (Nat.le_of_ble_eq_true rfl) (by omega) (by omega) ?_
  refine x_if_eq rfl rfl (fun hc1 => absurd hc1 (by decide +kernel)) (fun _ => ?_)
  refine x_aload_n rfl rfl rfl ?_
  refine x_getR0 rfl rfl f_9_27 rfl (by decide) rfl rfl ?_
  refine x_iload_n rfl rfl rfl ?_
  refine x_ialdv (a := i) (v := nI kd) (by first | exact hkd | (rw [← hkd]; rfl) | simp [ui, ul, hkd]) rfl rfl rfl (by decide) (by omega) (by decide) ?_
  refine x_bipush (v := nI 10) rfl rfl (by decide +kernel) ?_
  refine x_icmpN_ne (by omega) (by omega) rfl rfl (fun hc2 => ?_) (fun hc2 => absurd hc2 hne)
  refine x_iconst (v := -1) rfl rfl (by decide +kernel) ?_
  exact x_retI rfl rfl rfl (by omega) rfl rfl
set_option maxHeartbeats 4000000 in
set_option maxRecDepth 20000 in
theorem c_mtraitsOfO (hG : Gok G) (hd : 1 ≤ d) {n : Nat} (hn : M.1 (40, 0) 8 = nI n) (hn2 : n ≤ 40) {th : Int32} (ho : ∀ i, i < n → th ≠ nI i) : Ct G mX9_traitsOf d [.ref (ga G (40, 0)), .int (th)] M (.inl (some (.int ((-1))))) (ui M (40, 0) 0 (nI 0)) 0 := by
  refine ct_of hG okX9_traitsOf (by decide +kernel) rfl (Nat.le_of_ble_eq_true rfl) ?_
  refine x_aload_n rfl rfl rfl ?_
  refine x_iconstN (b := 0) rfl rfl ?_
  refine x_putI rfl rfl f_9_97 rfl rfl (by decide) rfl ?_
  refine x_aload_n rfl rfl rfl ?_
  refine x_iload_n rfl rfl rfl ?_
  refine x_callVi (d2 := 0) (c_misThingO (n := n) hG (by first | exact hn | (rw [← hn]; rfl) | simp [ui, ul, hn]) hn2 ho) rfl rfl v_9_152 rfl rfl (by decide) rfl rfl (Nat.le_of_ble_eq_true rfl) (by omega) (by omega) ?_
  refine x_if_eq rfl rfl (fun _ => ?_) (fun hc1 => absurd hc1 (by decide +kernel))
  refine x_iconst (v := -1) rfl rfl (by decide +kernel) ?_
  exact x_retI rfl rfl rfl (by omega) rfl rfl
end D2
end
section
/-- the last place, of k .. k + n, where f is e, or what was found before -/
def lxf (f : Nat → Int64) (e : Int64) : Option Nat → Nat → Nat → Option Nat
  | r, _, 0 => r
  | r, k, n + 1 => lxf f e (if f k = e then some k else r) (k + 1) n
theorem lxf_s (f : Nat → Int64) (e : Int64) (r : Option Nat) (k n : Nat) : lxf f e r k (n + 1) = lxf f e (if f k = e then some k else r) (k + 1) n := rfl
theorem or_step {Q : Prop} {P : Nat → Prop} {k m : Nat} (h : k < m) : (Q ∨ ∃ j, k ≤ j ∧ j < m ∧ P j) ↔ ((Q ∨ P k) ∨ ∃ j, k + 1 ≤ j ∧ j < m ∧ P j) := by
  constructor
  · rintro (z | ⟨j, h1, h2, h3⟩)
    · exact Or.inl (Or.inl z)
    · rcases Nat.lt_or_ge k j with q | q
      · exact Or.inr ⟨j, by omega, h2, h3⟩
      · rw [show j = k by omega] at h3; exact Or.inl (Or.inr h3)
  · rintro ((z | z) | ⟨j, h1, h2, h3⟩)
    · exact Or.inl z
    · exact Or.inr ⟨k, Nat.le_refl _, h, z⟩
    · exact Or.inr ⟨j, by omega, h2, h3⟩
theorem or_end {Q : Prop} {P : Nat → Prop} {k m : Nat} (h : m ≤ k) : (Q ∨ ∃ j, k ≤ j ∧ j < m ∧ P j) ↔ Q :=
  ⟨fun z => z.elim id (fun ⟨j, h1, h2, _⟩ => by omega), Or.inl⟩
section D3
variable {G : Gd} {d : Nat} {M : Mm}
set_option maxHeartbeats 4000000 in
theorem l_misMember (e : Int64) {i t m : Nat} (hi : i < 40) (ht : t < 12) (hm2 : m ≤ 3) (hkd : M.1 (46, 0) i = nI 10) (htr : M.1 (49, 0) i = nI t) (hm : M.1 (44, 0) t = nI m) : ∀ (n k : Nat) (Q : Prop), k + n = m → Fr G mX9_isMember d 0 (Zm G (.inl (some (.int (bI (Q ∨ ∃ j, k ≤ j ∧ j < m ∧ M.2 (45, 0) ((3 * t) + j) = e))))) M 0) 0 6 [(0, .ref (ga G (40, 0))), (1, .int (nI i)), (2, .long (e)), (4, .int (bI (Q))), (5, .int (nI k))] [] M := by
  intro n
  induction n with
  | zero =>
    intro k Q hk
    refine x_aload_n rfl rfl rfl ?_
    refine x_getR0 rfl rfl f_9_27 rfl (by decide) rfl rfl ?_
    refine x_iload_n rfl rfl rfl ?_
    refine x_ialdv (a := i) (v := nI 10) hkd rfl rfl rfl (by decide) (by omega) (by decide) ?_
    refine x_bipush (v := nI 10) rfl rfl (by decide +kernel) ?_
    refine x_icmpN_ne (by omega) (by omega) rfl rfl (fun hc1 => absurd hc1 (by omega)) (fun hc1 => ?_)
    refine x_iload rfl rfl rfl ?_
    refine x_aload_n rfl rfl rfl ?_
    refine x_getR0 rfl rfl f_9_20 rfl (by decide) rfl rfl ?_
    refine x_aload_n rfl rfl rfl ?_
    refine x_getR0 rfl rfl f_9_36 rfl (by decide) rfl rfl ?_
    refine x_iload_n rfl rfl rfl ?_
    refine x_ialdv (a := i) (v := nI t) htr rfl rfl rfl (by decide) (by omega) (by decide) ?_
    refine x_ialdv (a := t) (v := nI m) hm rfl rfl rfl (by decide) (by omega) (by decide) ?_
    refine x_icmpN_ge (by omega) (by omega) rfl rfl (fun hc2 => ?_) (fun hc2 => absurd hc2 (by omega))
    refine x_iload rfl rfl rfl ?_
    (rw [bI_iff (or_end (by omega))]; exact x_retZ rfl rfl rfl (bI_01 _) (by omega) rfl rfl)
  | succ n ih =>
    intro k Q hk
    refine x_aload_n rfl rfl rfl ?_
    refine x_getR0 rfl rfl f_9_27 rfl (by decide) rfl rfl ?_
    refine x_iload_n rfl rfl rfl ?_
    refine x_ialdv (a := i) (v := nI 10) hkd rfl rfl rfl (by decide) (by omega) (by decide) ?_
    refine x_bipush (v := nI 10) rfl rfl (by decide +kernel) ?_
    refine x_icmpN_ne (by omega) (by omega) rfl rfl (fun hc1 => absurd hc1 (by omega)) (fun hc1 => ?_)
    refine x_iload rfl rfl rfl ?_
    refine x_aload_n rfl rfl rfl ?_
    refine x_getR0 rfl rfl f_9_20 rfl (by decide) rfl rfl ?_
    refine x_aload_n rfl rfl rfl ?_
    refine x_getR0 rfl rfl f_9_36 rfl (by decide) rfl rfl ?_
    refine x_iload_n rfl rfl rfl ?_
    refine x_ialdv (a := i) (v := nI t) htr rfl rfl rfl (by decide) (by omega) (by decide) ?_
    refine x_ialdv (a := t) (v := nI m) hm rfl rfl rfl (by decide) (by omega) (by decide) ?_
    refine x_icmpN_ge (by omega) (by omega) rfl rfl (fun hc2 => absurd hc2 (by omega)) (fun hc2 => ?_)
    refine x_iload rfl rfl rfl ?_
    refine x_ifB_ne rfl rfl (fun hc3 => ?_) (fun hc3 => ?_)
    · refine x_iconstN (b := 1) rfl rfl ?_
      refine x_goto rfl rfl ?_
      refine x_istore rfl rfl rfl rfl ?_
      refine x_iincN (a := k) (b := 1) rfl rfl rfl rfl rfl ?_
      refine x_goto rfl rfl ?_
      (rw [bI_iff (or_step (P := fun j => M.2 (45, 0) ((3 * t) + j) = e) (by omega))]; exact x_eq (ih (k + 1) (Q ∨ M.2 (45, 0) ((3 * t) + k) = e) (by omega)) (by rw [bI_t (Or.inl hc3)] <;> rfl) rfl rfl)
    · refine x_aload_n rfl rfl rfl ?_
      refine x_getR0 rfl rfl f_9_24 rfl (by decide) rfl rfl ?_
      refine x_iconstN (b := 3) rfl rfl ?_
      refine x_aload_n rfl rfl rfl ?_
      refine x_getR0 rfl rfl f_9_36 rfl (by decide) rfl rfl ?_
      refine x_iload_n rfl rfl rfl ?_
      refine x_ialdv (a := i) (v := nI t) htr rfl rfl rfl (by decide) (by omega) (by decide) ?_
      refine x_imulN (a := 3) (b := t) rfl rfl ?_
      refine x_iload rfl rfl rfl ?_
      refine x_iaddN (a := 3 * t) (b := k) rfl rfl ?_
      refine x_lald (a := (3 * t) + k) rfl rfl rfl (by decide) (by omega) (by decide) ?_
      refine x_lload_n rfl rfl rfl ?_
      refine x_lc_ne rfl rfl rfl rfl (fun hc4 => ?_) (fun hc4 => ?_)
      · refine x_iconstN (b := 0) rfl rfl ?_
        refine x_istore rfl rfl rfl rfl ?_
        refine x_iincN (a := k) (b := 1) rfl rfl rfl rfl rfl ?_
        refine x_goto rfl rfl ?_
        (rw [bI_iff (or_step (P := fun j => M.2 (45, 0) ((3 * t) + j) = e) (by omega))]; exact x_eq (ih (k + 1) (Q ∨ M.2 (45, 0) ((3 * t) + k) = e) (by omega)) (by rw [bI_f (fun z => z.elim hc3 hc4)] <;> rfl) rfl rfl)
      · refine x_iconstN (b := 1) rfl rfl ?_
        refine x_goto rfl rfl ?_
        refine x_istore rfl rfl rfl rfl ?_
        refine x_iincN (a := k) (b := 1) rfl rfl rfl rfl rfl ?_
        refine x_goto rfl rfl ?_
        (rw [bI_iff (or_step (P := fun j => M.2 (45, 0) ((3 * t) + j) = e) (by omega))]; exact x_eq (ih (k + 1) (Q ∨ M.2 (45, 0) ((3 * t) + k) = e) (by omega)) (by rw [bI_t (Or.inr hc4)] <;> rfl) rfl rfl)
set_option maxHeartbeats 4000000 in
set_option maxRecDepth 20000 in
theorem c_misMember (hG : Gok G) (e : Int64) {i t m : Nat} (hi : i < 40) (ht : t < 12) (hm2 : m ≤ 3) (hkd : M.1 (46, 0) i = nI 10) (htr : M.1 (49, 0) i = nI t) (hm : M.1 (44, 0) t = nI m) : Ct G mX9_isMember d [.ref (ga G (40, 0)), .int (nI i), .long (e)] M (.inl (some (.int (bI (∃ j, j < m ∧ M.2 (45, 0) ((3 * t) + j) = e))))) M 0 := by
  refine ct_of hG okX9_isMember (by decide +kernel) rfl (Nat.le_of_ble_eq_true rfl) ?_
  refine x_iconstN (b := 0) rfl rfl ?_
  refine x_istore rfl rfl rfl rfl ?_
  refine x_iconstN (b := 0) rfl rfl ?_
  refine x_istore rfl rfl rfl rfl ?_
  (have hz := l_misMember (G := G) (d := d) (M := M) e hi ht hm2 hkd htr hm m 0 False (by omega); exact x_eq (by rw [bI_iff (show (∃ j, j < m ∧ M.2 (45, 0) ((3 * t) + j) = e) ↔ (False ∨ ∃ j, 0 ≤ j ∧ j < m ∧ M.2 (45, 0) ((3 * t) + j) = e) from by simp)]; exact hz) (by rw [bI_f (fun z => z)] <;> rfl) rfl rfl)
set_option maxHeartbeats 4000000 in
set_option maxRecDepth 20000 in
theorem c_misMemberK (hG : Gok G) (e : Int64) {i kd : Nat} (hi : i < 40) (hkd : M.1 (46, 0) i = nI kd) (hkd2 : kd < 16) (hne : kd ≠ 10) : Ct G mX9_isMember d [.ref (ga G (40, 0)), .int (nI i), .long (e)] M (.inl (some (.int (nI 0)))) M 0 := by
  refine ct_of hG okX9_isMember (by decide +kernel) rfl (Nat.le_of_ble_eq_true rfl) ?_
  refine x_iconstN (b := 0) rfl rfl ?_
  refine x_istore rfl rfl rfl rfl ?_
  refine x_iconstN (b := 0) rfl rfl ?_
  refine x_istore rfl rfl rfl rfl ?_
  refine x_aload_n rfl rfl rfl ?_
  refine x_getR0 rfl rfl f_9_27 rfl (by decide) rfl rfl ?_
  refine x_iload_n rfl rfl rfl ?_
  refine x_ialdv (a := i) (v := nI kd) hkd rfl rfl rfl (by decide) (by omega) (by decide) ?_
  refine x_bipush (v := nI 10) rfl rfl (by decide +kernel) ?_
  refine x_icmpN_ne (by omega) (by omega) rfl rfl (fun hc1 => ?_) (fun hc1 => absurd hc1 hne)
  refine x_iload rfl rfl rfl ?_
  exact x_retZ rfl rfl rfl (by first | exact Or.inl rfl | exact Or.inr rfl) (by omega) rfl rfl
set_option maxHeartbeats 4000000 in
theorem l_mpairAt (e : Int64) {i kl : Nat} (hi : i < 40) (hkl2 : kl ≤ 6) (hkl : M.1 (51, 0) i = nI kl) : ∀ (n k : Nat) (r : Option Nat), k + n = kl → Fr G mX9_pairAt d 0 (Zm G (.inl (some (.int (ixv (lxf (fun j => M.2 (52, 0) ((6 * i) + j)) e r k n))))) M 0) 0 6 [(0, .ref (ga G (40, 0))), (1, .int (nI i)), (2, .long (e)), (4, .int (ixv r)), (5, .int (nI k))] [] M := by
  intro n
  induction n with
  | zero =>
    intro k r hk
    refine x_iload rfl rfl rfl ?_
    refine x_aload_n rfl rfl rfl ?_
    refine x_getR0 rfl rfl f_9_42 rfl (by decide) rfl rfl ?_
    refine x_iload_n rfl rfl rfl ?_
    refine x_ialdv (a := i) (v := nI kl) hkl rfl rfl rfl (by decide) (by omega) (by decide) ?_
    refine x_icmpN_ge (by omega) (by omega) rfl rfl (fun hc1 => ?_) (fun hc1 => absurd hc1 (by omega))
    refine x_iload rfl rfl rfl ?_
    exact x_retI rfl rfl rfl (by omega) rfl rfl
  | succ n ih =>
    intro k r hk
    refine x_iload rfl rfl rfl ?_
    refine x_aload_n rfl rfl rfl ?_
    refine x_getR0 rfl rfl f_9_42 rfl (by decide) rfl rfl ?_
    refine x_iload_n rfl rfl rfl ?_
    refine x_ialdv (a := i) (v := nI kl) hkl rfl rfl rfl (by decide) (by omega) (by decide) ?_
    refine x_icmpN_ge (by omega) (by omega) rfl rfl (fun hc1 => absurd hc1 (by omega)) (fun hc1 => ?_)
    refine x_aload_n rfl rfl rfl ?_
    refine x_getR0 rfl rfl f_9_45 rfl (by decide) rfl rfl ?_
    refine x_bipush (v := nI 6) rfl rfl (by decide +kernel) ?_
    refine x_iload_n rfl rfl rfl ?_
    refine x_imulN (a := 6) (b := i) rfl rfl ?_
    refine x_iload rfl rfl rfl ?_
    refine x_iaddN (a := 6 * i) (b := k) rfl rfl ?_
    refine x_lald (a := (6 * i) + k) rfl rfl rfl (by decide) (by omega) (by decide) ?_
    refine x_lload_n rfl rfl rfl ?_
    refine x_lc_ne rfl rfl rfl rfl (fun hc2 => ?_) (fun hc2 => ?_)
    · refine x_iload rfl rfl rfl ?_
      refine x_istore rfl rfl rfl rfl ?_
      refine x_iincN (a := k) (b := 1) rfl rfl rfl rfl rfl ?_
      refine x_goto rfl rfl ?_
      (have hz := ih (k + 1) (r) (by omega); rw [lxf_s, if_neg hc2]; exact hz)
    · refine x_iload rfl rfl rfl ?_
      refine x_goto rfl rfl ?_
      refine x_istore rfl rfl rfl rfl ?_
      refine x_iincN (a := k) (b := 1) rfl rfl rfl rfl rfl ?_
      refine x_goto rfl rfl ?_
      (have hz := ih (k + 1) (some k) (by omega); rw [lxf_s, if_pos hc2]; exact hz)
set_option maxHeartbeats 4000000 in
set_option maxRecDepth 20000 in
theorem c_mpairAt (hG : Gok G) (e : Int64) {i kl : Nat} (hi : i < 40) (hkl2 : kl ≤ 6) (hkl : M.1 (51, 0) i = nI kl) : Ct G mX9_pairAt d [.ref (ga G (40, 0)), .int (nI i), .long (e)] M (.inl (some (.int (ixv (lxf (fun j => M.2 (52, 0) ((6 * i) + j)) e none 0 kl))))) M 0 := by
  refine ct_of hG okX9_pairAt (by decide +kernel) rfl (Nat.le_of_ble_eq_true rfl) ?_
  refine x_iconst (v := -1) rfl rfl (by decide +kernel) ?_
  refine x_istore rfl rfl rfl rfl ?_
  refine x_iconstN (b := 0) rfl rfl ?_
  refine x_istore rfl rfl rfl rfl ?_
  exact l_mpairAt e hi hkl2 hkl kl 0 none (by omega)
set_option maxHeartbeats 4000000 in
theorem l_misAllowed (e : Int64) {an : Nat} (han2 : an ≤ 7) (han : M.1 (40, 0) 17 = nI an) : ∀ (n k : Nat) (Q : Prop), k + n = an → Fr G mX9_isAllowed d 0 (Zm G (.inl (some (.int (bI (Q ∨ ∃ j, k ≤ j ∧ j < an ∧ M.2 (54, 0) j = e))))) M 0) 0 5 [(0, .ref (ga G (40, 0))), (1, .long (e)), (3, .int (bI (Q))), (4, .int (nI k))] [] M := by
  intro n
  induction n with
  | zero =>
    intro k Q hk
    refine x_iload rfl rfl rfl ?_
    refine x_aload_n rfl rfl rfl ?_
    refine x_getIv (v := nI an) han rfl rfl f_9_94 rfl (by decide) rfl ?_
    refine x_icmpN_ge (by omega) (by omega) rfl rfl (fun hc1 => ?_) (fun hc1 => absurd hc1 (by omega))
    refine x_iload_n rfl rfl rfl ?_
    (rw [bI_iff (or_end (by omega))]; exact x_retZ rfl rfl rfl (bI_01 _) (by omega) rfl rfl)
  | succ n ih =>
    intro k Q hk
    refine x_iload rfl rfl rfl ?_
    refine x_aload_n rfl rfl rfl ?_
    refine x_getIv (v := nI an) han rfl rfl f_9_94 rfl (by decide) rfl ?_
    refine x_icmpN_ge (by omega) (by omega) rfl rfl (fun hc1 => absurd hc1 (by omega)) (fun hc1 => ?_)
    refine x_iload_n rfl rfl rfl ?_
    refine x_ifB_ne rfl rfl (fun hc2 => ?_) (fun hc2 => ?_)
    · refine x_iconstN (b := 1) rfl rfl ?_
      refine x_goto rfl rfl ?_
      refine x_istore_n rfl rfl rfl rfl ?_
      refine x_iincN (a := k) (b := 1) rfl rfl rfl rfl rfl ?_
      refine x_goto rfl rfl ?_
      (rw [bI_iff (or_step (P := fun j => M.2 (54, 0) j = e) (by omega))]; exact x_eq (ih (k + 1) (Q ∨ M.2 (54, 0) k = e) (by omega)) (by rw [bI_t (Or.inl hc2)] <;> rfl) rfl rfl)
    · refine x_aload_n rfl rfl rfl ?_
      refine x_getR0 rfl rfl f_9_51 rfl (by decide) rfl rfl ?_
      refine x_iload rfl rfl rfl ?_
      refine x_lald (a := k) rfl rfl rfl (by decide) (by omega) (by decide) ?_
      refine x_lload_n rfl rfl rfl ?_
      refine x_lc_ne rfl rfl rfl rfl (fun hc3 => ?_) (fun hc3 => ?_)
      · refine x_iconstN (b := 0) rfl rfl ?_
        refine x_istore_n rfl rfl rfl rfl ?_
        refine x_iincN (a := k) (b := 1) rfl rfl rfl rfl rfl ?_
        refine x_goto rfl rfl ?_
        (rw [bI_iff (or_step (P := fun j => M.2 (54, 0) j = e) (by omega))]; exact x_eq (ih (k + 1) (Q ∨ M.2 (54, 0) k = e) (by omega)) (by rw [bI_f (fun z => z.elim hc2 hc3)] <;> rfl) rfl rfl)
      · refine x_iconstN (b := 1) rfl rfl ?_
        refine x_goto rfl rfl ?_
        refine x_istore_n rfl rfl rfl rfl ?_
        refine x_iincN (a := k) (b := 1) rfl rfl rfl rfl rfl ?_
        refine x_goto rfl rfl ?_
        (rw [bI_iff (or_step (P := fun j => M.2 (54, 0) j = e) (by omega))]; exact x_eq (ih (k + 1) (Q ∨ M.2 (54, 0) k = e) (by omega)) (by rw [bI_t (Or.inr hc3)] <;> rfl) rfl rfl)
set_option maxHeartbeats 4000000 in
set_option maxRecDepth 20000 in
theorem c_misAllowed (hG : Gok G) (e : Int64) {an : Nat} (han2 : an ≤ 7) (han : M.1 (40, 0) 17 = nI an) : Ct G mX9_isAllowed d [.ref (ga G (40, 0)), .long (e)] M (.inl (some (.int (bI (∃ j, j < an ∧ M.2 (54, 0) j = e))))) M 0 := by
  refine ct_of hG okX9_isAllowed (by decide +kernel) rfl (Nat.le_of_ble_eq_true rfl) ?_
  refine x_iconstN (b := 0) rfl rfl ?_
  refine x_istore_n rfl rfl rfl rfl ?_
  refine x_iconstN (b := 0) rfl rfl ?_
  refine x_istore rfl rfl rfl rfl ?_
  (have hz := l_misAllowed (G := G) (d := d) (M := M) e han2 han an 0 False (by omega); exact x_eq (by rw [bI_iff (show (∃ j, j < an ∧ M.2 (54, 0) j = e) ↔ (False ∨ ∃ j, 0 ≤ j ∧ j < an ∧ M.2 (54, 0) j = e) from by simp)]; exact hz) (by rw [bI_f (fun z => z)] <;> rfl) rfl rfl)
set_option maxHeartbeats 4000000 in
set_option maxRecDepth 20000 in
theorem c_mallow (hG : Gok G) (hd : 2 ≤ d) (nm : Int64) {an : Nat} (han : M.1 (40, 0) 17 = nI an) (han2 : an ≤ 7) (h1 : isTx nm) (h3 : ¬ ∃ j, j < an ∧ M.2 (54, 0) j = nm) (h4 : an < 7) : Ct G mX9_allow d [.ref (ga G (40, 0)), .long (nm)] M (.inl (some (.int (nI 1)))) (ui (ul (ui M (40, 0) 0 (nI 0)) (54, 0) an nm) (40, 0) 17 (nI (an + 1))) 0 := by
  refine ct_of hG okX9_allow (by decide +kernel) rfl (Nat.le_of_ble_eq_true rfl) ?_
  refine x_aload_n rfl rfl rfl ?_
  refine x_iconstN (b := 0) rfl rfl ?_
  refine x_putI rfl rfl f_9_97 rfl rfl (by decide) rfl ?_
  refine x_lload_n rfl rfl rfl ?_
  refine x_callSi (d2 := 1) (c_misText hG (Nat.le_refl 1) (nm)) rfl rfl s_9_117 rfl rfl (Nat.le_of_ble_eq_true rfl) (by omega) (by omega) ?_
  refine x_ifB_eq rfl rfl (fun hc1 => absurd h1 hc1) (fun hc1 => ?_)
  refine x_aload_n rfl rfl rfl ?_
  refine x_lload_n rfl rfl rfl ?_
  refine x_callVi (d2 := 0) (c_misAllowed (an := an) hG (nm) (by omega) (by first | exact han | (rw [← han]; rfl) | simp [ui, ul, han])) rfl rfl v_9_173 rfl rfl (by decide) rfl rfl (Nat.le_of_ble_eq_true rfl) (by omega) (by omega) ?_
  refine x_ifB_ne rfl rfl (fun hc2 => absurd hc2 h3) (fun hc2 => ?_)
  refine x_aload_n rfl rfl rfl ?_
  refine x_getIv (v := nI an) (by first | exact han | (rw [← han]; rfl) | simp [ui, ul, han]) rfl rfl f_9_94 rfl (by decide) rfl ?_
  refine x_bipush (v := nI 7) rfl rfl (by decide +kernel) ?_
  refine x_icmpN_ne (by omega) (by omega) rfl rfl (fun hc3 => ?_) (fun hc3 => absurd hc3 (by omega))
  refine x_aload_n rfl rfl rfl ?_
  refine x_getR0 rfl rfl f_9_51 rfl (by decide) rfl rfl ?_
  refine x_aload_n rfl rfl rfl ?_
  refine x_getIv (v := nI an) (by first | exact han | (rw [← han]; rfl) | simp [ui, ul, han]) rfl rfl f_9_94 rfl (by decide) rfl ?_
  refine x_lload_n rfl rfl rfl ?_
  refine x_last (a := an) rfl rfl rfl (by decide) (by omega) (by decide) ?_
  refine x_aload_n rfl rfl rfl ?_
  refine x_dup rfl rfl rfl ?_
  refine x_getIv (v := nI an) (by first | exact han | (rw [← han]; rfl) | simp [ui, ul, han]) rfl rfl f_9_94 rfl (by decide) rfl ?_
  refine x_iconstN (b := 1) rfl rfl ?_
  refine x_iaddN (a := an) (b := 1) rfl rfl ?_
  refine x_putI rfl rfl f_9_94 rfl rfl (by decide) rfl ?_
  refine x_iconstN (b := 1) rfl rfl ?_
  exact x_retZ rfl rfl rfl (by first | exact Or.inl rfl | exact Or.inr rfl) (by omega) rfl rfl
set_option maxHeartbeats 4000000 in
set_option maxRecDepth 20000 in
theorem c_mallowX (hG : Gok G) (hd : 2 ≤ d) (nm : Int64) {an : Nat} (han : M.1 (40, 0) 17 = nI an) (han2 : an ≤ 7) (h : ¬ (isTx nm ∧ (¬ ∃ j, j < an ∧ M.2 (54, 0) j = nm) ∧ an < 7)) : Ct G mX9_allow d [.ref (ga G (40, 0)), .long (nm)] M (.inl (some (.int (nI 0)))) (ui M (40, 0) 0 (nI 0)) 0 := by
  refine ct_of hG okX9_allow (by decide +kernel) rfl (Nat.le_of_ble_eq_true rfl) ?_
  refine x_aload_n rfl rfl rfl ?_
  refine x_iconstN (b := 0) rfl rfl ?_
  refine x_putI rfl rfl f_9_97 rfl rfl (by decide) rfl ?_
  refine x_lload_n rfl rfl rfl ?_
  refine x_callSi (d2 := 1) (c_misText hG (Nat.le_refl 1) (nm)) rfl rfl s_9_117 rfl rfl (Nat.le_of_ble_eq_true rfl) (by omega) (by omega) ?_
  refine x_ifB_eq rfl rfl (fun hc1 => ?_) (fun hc1 => ?_)
  · refine x_iconstN (b := 0) rfl rfl ?_
    exact x_retZ rfl rfl rfl (Or.inl rfl) (by omega) rfl rfl
  · refine x_aload_n rfl rfl rfl ?_
    refine x_lload_n rfl rfl rfl ?_
    refine x_callVi (d2 := 0) (c_misAllowed (an := an) hG (nm) (by omega) (by first | exact han | (rw [← han]; rfl) | simp [ui, ul, han])) rfl rfl v_9_173 rfl rfl (by decide) rfl rfl (Nat.le_of_ble_eq_true rfl) (by omega) (by omega) ?_
    refine x_ifB_ne rfl rfl (fun hc2 => ?_) (fun hc2 => ?_)
    · refine x_iconstN (b := 0) rfl rfl ?_
      exact x_retZ rfl rfl rfl (Or.inl rfl) (by omega) rfl rfl
    · refine x_aload_n rfl rfl rfl ?_
      refine x_getIv (v := nI an) (by first | exact han | (rw [← han]; rfl) | simp [ui, ul, han]) rfl rfl f_9_94 rfl (by decide) rfl ?_
      refine x_bipush (v := nI 7) rfl rfl (by decide +kernel) ?_
      refine x_icmpN_ne (by omega) (by omega) rfl rfl (fun hc3 => ?_) (fun hc3 => ?_)
      · refine x_aload_n rfl rfl rfl ?_
        refine x_getR0 rfl rfl f_9_51 rfl (by decide) rfl rfl ?_
        refine x_aload_n rfl rfl rfl ?_
        refine x_getIv (v := nI an) (by first | exact han | (rw [← han]; rfl) | simp [ui, ul, han]) rfl rfl f_9_94 rfl (by decide) rfl ?_
        refine x_lload_n rfl rfl rfl ?_
        refine x_last (a := an) rfl rfl rfl (by decide) (by omega) (by decide) ?_
        refine x_aload_n rfl rfl rfl ?_
        refine x_dup rfl rfl rfl ?_
        refine x_getIv (v := nI an) (by first | exact han | (rw [← han]; rfl) | simp [ui, ul, han]) rfl rfl f_9_94 rfl (by decide) rfl ?_
        refine x_iconstN (b := 1) rfl rfl ?_
        refine x_iaddN (a := an) (b := 1) rfl rfl ?_
        refine x_putI rfl rfl f_9_94 rfl rfl (by decide) rfl ?_
        refine x_iconstN (b := 1) rfl rfl ?_
        exact absurd ⟨hc1, hc2, by omega⟩ h
      · refine x_iconstN (b := 0) rfl rfl ?_
        exact x_retZ rfl rfl rfl (Or.inl rfl) (by omega) rfl rfl
set_option maxHeartbeats 4000000 in
set_option maxRecDepth 20000 in
theorem c_mhasItems9 (hG : Gok G) (hd : 1 ≤ d) {n : Nat} (hn : M.1 (40, 0) 8 = nI n) (hn2 : n ≤ 40) {i : Nat} (hi : i < n) (hkd : M.1 (46, 0) i = nI 9) : Ct G mX9_hasItems d [.ref (ga G (40, 0)), .int (nI i)] M (.inl (some (.int (nI 1)))) M 0 := by
  refine ct_of hG okX9_hasItems (by decide +kernel) rfl (Nat.le_of_ble_eq_true rfl) ?_
  refine x_aload_n rfl rfl rfl ?_
  refine x_iload_n rfl rfl rfl ?_
  refine x_callVi (d2 := 0) (c_misThing (n := n) hG hn (by omega) (by omega)) rfl rfl v_9_152 rfl rfl (by decide) rfl rfl (Nat.le_of_ble_eq_true rfl) (by omega) (by omega) ?_
  refine x_if_eq rfl rfl (fun hc1 => absurd hc1 (by decide +kernel)) (fun _ => ?_)
  refine x_aload_n rfl rfl rfl ?_
  refine x_getR0 rfl rfl f_9_27 rfl (by decide) rfl rfl ?_
  refine x_iload_n rfl rfl rfl ?_
  refine x_ialdv (a := i) (v := nI 9) hkd rfl rfl rfl (by decide) (by omega) (by decide) ?_
  refine x_bipush (v := nI 9) rfl rfl (by decide +kernel) ?_
  refine x_icmpN_eq (by omega) (by omega) rfl rfl (fun hc2 => ?_) (fun hc2 => absurd hc2 (by omega))
  refine x_iconstN (b := 1) rfl rfl ?_
  refine x_goto rfl rfl ?_
  exact x_retZ rfl rfl rfl (by first | exact Or.inl rfl | exact Or.inr rfl) (by omega) rfl rfl
set_option maxHeartbeats 4000000 in
set_option maxRecDepth 20000 in
theorem c_mhasItems10 (hG : Gok G) (hd : 1 ≤ d) {n : Nat} (hn : M.1 (40, 0) 8 = nI n) (hn2 : n ≤ 40) {i : Nat} (hi : i < n) (hkd : M.1 (46, 0) i = nI 10) : Ct G mX9_hasItems d [.ref (ga G (40, 0)), .int (nI i)] M (.inl (some (.int (nI 1)))) M 0 := by
  refine ct_of hG okX9_hasItems (by decide +kernel) rfl (Nat.le_of_ble_eq_true rfl) ?_
  refine x_aload_n rfl rfl rfl ?_
  refine x_iload_n rfl rfl rfl ?_
  refine x_callVi (d2 := 0) (c_misThing (n := n) hG hn (by omega) (by omega)) rfl rfl v_9_152 rfl rfl (by decide) rfl rfl (Nat.le_of_ble_eq_true rfl) (by omega) (by omega) ?_
  refine x_if_eq rfl rfl (fun hc1 => absurd hc1 (by decide +kernel)) (fun _ => ?_)
  refine x_aload_n rfl rfl rfl ?_
  refine x_getR0 rfl rfl f_9_27 rfl (by decide) rfl rfl ?_
  refine x_iload_n rfl rfl rfl ?_
  refine x_ialdv (a := i) (v := nI 10) hkd rfl rfl rfl (by decide) (by omega) (by decide) ?_
  refine x_bipush (v := nI 9) rfl rfl (by decide +kernel) ?_
  refine x_icmpN_eq (by omega) (by omega) rfl rfl (fun hc2 => absurd hc2 (by omega)) (fun hc2 => ?_)
  refine x_aload_n rfl rfl rfl ?_
  refine x_getR0 rfl rfl f_9_27 rfl (by decide) rfl rfl ?_
  refine x_iload_n rfl rfl rfl ?_
  refine x_ialdv (a := i) (v := nI 10) hkd rfl rfl rfl (by decide) (by omega) (by decide) ?_
  refine x_bipush (v := nI 10) rfl rfl (by decide +kernel) ?_
  refine x_icmpN_ne (by omega) (by omega) rfl rfl (fun hc3 => absurd hc3 (by omega)) (fun hc3 => ?_)
  refine x_iconstN (b := 1) rfl rfl ?_
  refine x_goto rfl rfl ?_
  exact x_retZ rfl rfl rfl (by first | exact Or.inl rfl | exact Or.inr rfl) (by omega) rfl rfl
set_option maxHeartbeats 4000000 in
set_option maxRecDepth 20000 in
theorem c_mhasItemsK (hG : Gok G) (hd : 1 ≤ d) {n : Nat} (hn : M.1 (40, 0) 8 = nI n) (hn2 : n ≤ 40) {i : Nat} (hi : i < n) {kd : Nat} (hkd : M.1 (46, 0) i = nI kd) (hkd2 : kd < 16) (h9 : kd ≠ 9) (h10 : kd ≠ 10) : Ct G mX9_hasItems d [.ref (ga G (40, 0)), .int (nI i)] M (.inl (some (.int (nI 0)))) M 0 := by
  refine ct_of hG okX9_hasItems (by decide +kernel) rfl (Nat.le_of_ble_eq_true rfl) ?_
  refine x_aload_n rfl rfl rfl ?_
  refine x_iload_n rfl rfl rfl ?_
  refine x_callVi (d2 := 0) (c_misThing (n := n) hG hn (by omega) (by omega)) rfl rfl v_9_152 rfl rfl (by decide) rfl rfl (Nat.le_of_ble_eq_true rfl) (by omega) (by omega) ?_
  refine x_if_eq rfl rfl (fun hc1 => absurd hc1 (by decide +kernel)) (fun _ => ?_)
  refine x_aload_n rfl rfl rfl ?_
  refine x_getR0 rfl rfl f_9_27 rfl (by decide) rfl rfl ?_
  refine x_iload_n rfl rfl rfl ?_
  refine x_ialdv (a := i) (v := nI kd) hkd rfl rfl rfl (by decide) (by omega) (by decide) ?_
  refine x_bipush (v := nI 9) rfl rfl (by decide +kernel) ?_
  refine x_icmpN_eq (by omega) (by omega) rfl rfl (fun hc2 => absurd hc2 h9) (fun hc2 => ?_)
  refine x_aload_n rfl rfl rfl ?_
  refine x_getR0 rfl rfl f_9_27 rfl (by decide) rfl rfl ?_
  refine x_iload_n rfl rfl rfl ?_
  refine x_ialdv (a := i) (v := nI kd) hkd rfl rfl rfl (by decide) (by omega) (by decide) ?_
  refine x_bipush (v := nI 10) rfl rfl (by decide +kernel) ?_
  refine x_icmpN_ne (by omega) (by omega) rfl rfl (fun hc3 => ?_) (fun hc3 => absurd hc3 h10)
  refine x_iconstN (b := 0) rfl rfl ?_
  exact x_retZ rfl rfl rfl (by first | exact Or.inl rfl | exact Or.inr rfl) (by omega) rfl rfl
set_option maxHeartbeats 4000000 in
set_option maxRecDepth 20000 in
theorem c_mhasItemsO (hG : Gok G) (hd : 1 ≤ d) {n : Nat} (hn : M.1 (40, 0) 8 = nI n) (hn2 : n ≤ 40) {th : Int32} (ho : ∀ i, i < n → th ≠ nI i) : Ct G mX9_hasItems d [.ref (ga G (40, 0)), .int (th)] M (.inl (some (.int (nI 0)))) M 0 := by
  refine ct_of hG okX9_hasItems (by decide +kernel) rfl (Nat.le_of_ble_eq_true rfl) ?_
  refine x_aload_n rfl rfl rfl ?_
  refine x_iload_n rfl rfl rfl ?_
  refine x_callVi (d2 := 0) (c_misThingO (n := n) hG hn hn2 ho) rfl rfl v_9_152 rfl rfl (by decide) rfl rfl (Nat.le_of_ble_eq_true rfl) (by omega) (by omega) ?_
  refine x_if_eq rfl rfl (fun _ => ?_) (fun hc1 => absurd hc1 (by decide +kernel))
  refine x_iconstN (b := 0) rfl rfl ?_
  exact x_retZ rfl rfl rfl (by first | exact Or.inl rfl | exact Or.inr rfl) (by omega) rfl rfl
set_option maxHeartbeats 4000000 in
set_option maxRecDepth 20000 in
theorem c_mhasPairs9 (hG : Gok G) (hd : 1 ≤ d) {n : Nat} (hn : M.1 (40, 0) 8 = nI n) (hn2 : n ≤ 40) {i : Nat} (hi : i < n) (hkd : M.1 (46, 0) i = nI 9) : Ct G mX9_hasPairs d [.ref (ga G (40, 0)), .int (nI i)] M (.inl (some (.int (nI 1)))) M 0 := by
  refine ct_of hG okX9_hasPairs (by decide +kernel) rfl (Nat.le_of_ble_eq_true rfl) ?_
  refine x_aload_n rfl rfl rfl ?_
  refine x_iload_n rfl rfl rfl ?_
  refine x_callVi (d2 := 0) (c_misThing (n := n) hG hn (by omega) (by omega)) rfl rfl v_9_152 rfl rfl (by decide) rfl rfl (Nat.le_of_ble_eq_true rfl) (by omega) (by omega) ?_
  refine x_if_eq rfl rfl (fun hc1 => absurd hc1 (by decide +kernel)) (fun _ => ?_)
  refine x_aload_n rfl rfl rfl ?_
  refine x_getR0 rfl rfl f_9_27 rfl (by decide) rfl rfl ?_
  refine x_iload_n rfl rfl rfl ?_
  refine x_ialdv (a := i) (v := nI 9) hkd rfl rfl rfl (by decide) (by omega) (by decide) ?_
  refine x_bipush (v := nI 9) rfl rfl (by decide +kernel) ?_
  refine x_icmpN_eq (by omega) (by omega) rfl rfl (fun hc2 => ?_) (fun hc2 => absurd hc2 (by omega))
  refine x_iconstN (b := 1) rfl rfl ?_
  refine x_goto rfl rfl ?_
  exact x_retZ rfl rfl rfl (by first | exact Or.inl rfl | exact Or.inr rfl) (by omega) rfl rfl
set_option maxHeartbeats 4000000 in
set_option maxRecDepth 20000 in
theorem c_mhasPairs10 (hG : Gok G) (hd : 1 ≤ d) {n : Nat} (hn : M.1 (40, 0) 8 = nI n) (hn2 : n ≤ 40) {i : Nat} (hi : i < n) (hkd : M.1 (46, 0) i = nI 10) {t : Nat} (ht : t < 12) (dy : Prop) (htr : M.1 (49, 0) i = nI t) (hdy : M.1 (43, 0) t = bI dy) : Ct G mX9_hasPairs d [.ref (ga G (40, 0)), .int (nI i)] M (.inl (some (.int (bI dy)))) M 0 := by
  refine ct_of hG okX9_hasPairs (by decide +kernel) rfl (Nat.le_of_ble_eq_true rfl) ?_
  refine x_aload_n rfl rfl rfl ?_
  refine x_iload_n rfl rfl rfl ?_
  refine x_callVi (d2 := 0) (c_misThing (n := n) hG hn (by omega) (by omega)) rfl rfl v_9_152 rfl rfl (by decide) rfl rfl (Nat.le_of_ble_eq_true rfl) (by omega) (by omega) ?_
  refine x_if_eq rfl rfl (fun hc1 => absurd hc1 (by decide +kernel)) (fun _ => ?_)
  refine x_aload_n rfl rfl rfl ?_
  refine x_getR0 rfl rfl f_9_27 rfl (by decide) rfl rfl ?_
  refine x_iload_n rfl rfl rfl ?_
  refine x_ialdv (a := i) (v := nI 10) hkd rfl rfl rfl (by decide) (by omega) (by decide) ?_
  refine x_bipush (v := nI 9) rfl rfl (by decide +kernel) ?_
  refine x_icmpN_eq (by omega) (by omega) rfl rfl (fun hc2 => absurd hc2 (by omega)) (fun hc2 => ?_)
  refine x_aload_n rfl rfl rfl ?_
  refine x_getR0 rfl rfl f_9_27 rfl (by decide) rfl rfl ?_
  refine x_iload_n rfl rfl rfl ?_
  refine x_ialdv (a := i) (v := nI 10) hkd rfl rfl rfl (by decide) (by omega) (by decide) ?_
  refine x_bipush (v := nI 10) rfl rfl (by decide +kernel) ?_
  refine x_icmpN_ne (by omega) (by omega) rfl rfl (fun hc3 => absurd hc3 (by omega)) (fun hc3 => ?_)
  refine x_aload_n rfl rfl rfl ?_
  refine x_getR0 rfl rfl f_9_16 rfl (by decide) rfl rfl ?_
  refine x_aload_n rfl rfl rfl ?_
  refine x_getR0 rfl rfl f_9_36 rfl (by decide) rfl rfl ?_
  refine x_iload_n rfl rfl rfl ?_
  refine x_ialdv (a := i) (v := nI t) htr rfl rfl rfl (by decide) (by omega) (by decide) ?_
  refine x_zaldv (a := t) (v := bI (dy)) hdy rfl rfl rfl (by decide) (by omega) (by decide) ?_
  refine x_ifB_eq rfl rfl (fun hc4 => ?_) (fun hc4 => ?_)
  · refine x_iconstN (b := 0) rfl rfl ?_
    exact x_retZ rfl rfl rfl (by first | exact Or.inl rfl | exact Or.inr rfl) (by omega) (oB_f hc4) rfl
  · refine x_iconstN (b := 1) rfl rfl ?_
    refine x_goto rfl rfl ?_
    exact x_retZ rfl rfl rfl (by first | exact Or.inl rfl | exact Or.inr rfl) (by omega) (oB_t hc4) rfl
set_option maxHeartbeats 4000000 in
set_option maxRecDepth 20000 in
theorem c_mhasPairsK (hG : Gok G) (hd : 1 ≤ d) {n : Nat} (hn : M.1 (40, 0) 8 = nI n) (hn2 : n ≤ 40) {i : Nat} (hi : i < n) {kd : Nat} (hkd : M.1 (46, 0) i = nI kd) (hkd2 : kd < 16) (h9 : kd ≠ 9) (h10 : kd ≠ 10) : Ct G mX9_hasPairs d [.ref (ga G (40, 0)), .int (nI i)] M (.inl (some (.int (nI 0)))) M 0 := by
  refine ct_of hG okX9_hasPairs (by decide +kernel) rfl (Nat.le_of_ble_eq_true rfl) ?_
  refine x_aload_n rfl rfl rfl ?_
  refine x_iload_n rfl rfl rfl ?_
  refine x_callVi (d2 := 0) (c_misThing (n := n) hG hn (by omega) (by omega)) rfl rfl v_9_152 rfl rfl (by decide) rfl rfl (Nat.le_of_ble_eq_true rfl) (by omega) (by omega) ?_
  refine x_if_eq rfl rfl (fun hc1 => absurd hc1 (by decide +kernel)) (fun _ => ?_)
  refine x_aload_n rfl rfl rfl ?_
  refine x_getR0 rfl rfl f_9_27 rfl (by decide) rfl rfl ?_
  refine x_iload_n rfl rfl rfl ?_
  refine x_ialdv (a := i) (v := nI kd) hkd rfl rfl rfl (by decide) (by omega) (by decide) ?_
  refine x_bipush (v := nI 9) rfl rfl (by decide +kernel) ?_
  refine x_icmpN_eq (by omega) (by omega) rfl rfl (fun hc2 => absurd hc2 h9) (fun hc2 => ?_)
  refine x_aload_n rfl rfl rfl ?_
  refine x_getR0 rfl rfl f_9_27 rfl (by decide) rfl rfl ?_
  refine x_iload_n rfl rfl rfl ?_
  refine x_ialdv (a := i) (v := nI kd) hkd rfl rfl rfl (by decide) (by omega) (by decide) ?_
  refine x_bipush (v := nI 10) rfl rfl (by decide +kernel) ?_
  refine x_icmpN_ne (by omega) (by omega) rfl rfl (fun hc3 => ?_) (fun hc3 => absurd hc3 h10)
  refine x_iconstN (b := 0) rfl rfl ?_
  exact x_retZ rfl rfl rfl (by first | exact Or.inl rfl | exact Or.inr rfl) (by omega) rfl rfl
set_option maxHeartbeats 4000000 in
set_option maxRecDepth 20000 in
theorem c_mhasPairsO (hG : Gok G) (hd : 1 ≤ d) {n : Nat} (hn : M.1 (40, 0) 8 = nI n) (hn2 : n ≤ 40) {th : Int32} (ho : ∀ i, i < n → th ≠ nI i) : Ct G mX9_hasPairs d [.ref (ga G (40, 0)), .int (th)] M (.inl (some (.int (nI 0)))) M 0 := by
  refine ct_of hG okX9_hasPairs (by decide +kernel) rfl (Nat.le_of_ble_eq_true rfl) ?_
  refine x_aload_n rfl rfl rfl ?_
  refine x_iload_n rfl rfl rfl ?_
  refine x_callVi (d2 := 0) (c_misThingO (n := n) hG hn hn2 ho) rfl rfl v_9_152 rfl rfl (by decide) rfl rfl (Nat.le_of_ble_eq_true rfl) (by omega) (by omega) ?_
  refine x_if_eq rfl rfl (fun _ => ?_) (fun hc1 => absurd hc1 (by decide +kernel))
  refine x_iconstN (b := 0) rfl rfl ?_
  exact x_retZ rfl rfl rfl (by first | exact Or.inl rfl | exact Or.inr rfl) (by omega) rfl rfl
set_option maxHeartbeats 4000000 in
set_option maxRecDepth 20000 in
theorem c_mappend (hG : Gok G) (hd : 3 ≤ d) (v : Int64) {n : Nat} (hn : M.1 (40, 0) 8 = nI n) (hn2 : n ≤ 40) {w : Nat} (hw : M.1 (40, 0) 1 = nI w) (hw2 : w ≤ 40) {i : Nat} (hi : i < n) {il : Nat} (hil : M.1 (48, 0) i = nI il) (hil2 : il < 8) (hkd : M.1 (46, 0) i = nI 9) (hv : isV w n v) : Ct G mX9_append d [.ref (ga G (40, 0)), .int (nI i), .long (v)] M (.inl (some (.int (nI (il + 1))))) (ui (ul (ui M (40, 0) 0 (nI 0)) (50, 0) ((8 * i) + il) v) (48, 0) i (nI (il + 1))) 0 := by
  refine ct_of hG okX9_append (by decide +kernel) rfl (Nat.le_of_ble_eq_true rfl) ?_
  refine x_aload_n rfl rfl rfl ?_
  refine x_iload_n rfl rfl rfl ?_
  refine x_callVi (d2 := 0) (c_misThing (n := n) hG hn (by omega) (by omega)) rfl rfl v_9_152 rfl rfl (by decide) rfl rfl (Nat.le_of_ble_eq_true rfl) (by omega) (by omega) ?_
  refine x_if_eq rfl rfl (fun hc1 => absurd hc1 (by decide +kernel)) (fun _ => ?_)
  refine x_aload_n rfl rfl rfl ?_
  refine x_getR0 rfl rfl f_9_27 rfl (by decide) rfl rfl ?_
  refine x_iload_n rfl rfl rfl ?_
  refine x_ialdv (a := i) (v := nI 9) hkd rfl rfl rfl (by decide) (by omega) (by decide) ?_
  refine x_bipush (v := nI 9) rfl rfl (by decide +kernel) ?_
  refine x_icmpN_ne (by omega) (by omega) rfl rfl (fun hc2 => absurd hc2 (by omega)) (fun hc2 => ?_)
  refine x_aload_n rfl rfl rfl ?_
  refine x_lload_n rfl rfl rfl ?_
  refine x_callVi (d2 := 2) (c_misValue (n := n) (w := w) hG (Nat.le_refl 2) (v) hn hn2 hw hw2) rfl rfl v_9_156 rfl rfl (by decide) rfl rfl (Nat.le_of_ble_eq_true rfl) (by omega) (by omega) ?_
  refine x_ifB_eq rfl rfl (fun hc3 => absurd hv hc3) (fun hc3 => ?_)
  refine x_iconstN (b := 1) rfl rfl ?_
  refine x_goto rfl rfl ?_
  refine x_istore rfl rfl rfl rfl ?_
  refine x_aload_n rfl rfl rfl ?_
  refine x_iload rfl rfl rfl ?_
  refine x_if_ne rfl rfl (fun _ => ?_) (fun hc4 => absurd hc4 (by decide +kernel))
  refine x_aload_n rfl rfl rfl ?_
  refine x_getR0 rfl rfl f_9_33 rfl (by decide) rfl rfl ?_
  refine x_iload_n rfl rfl rfl ?_
  refine x_ialdv (a := i) (v := nI il) hil rfl rfl rfl (by decide) (by omega) (by decide) ?_
  refine x_bipush (v := nI 8) rfl rfl (by decide +kernel) ?_
  refine x_icmpN_ne (by omega) (by omega) rfl rfl (fun hc5 => ?_) (fun hc5 => absurd hc5 (by omega))
  refine x_iconstN (b := 0) rfl rfl ?_
  refine x_putI rfl rfl f_9_97 rfl rfl (by decide) rfl ?_
  refine x_aload_n rfl rfl rfl ?_
  refine x_getIv (v := nI 0) (by first | rfl | simp [ui, ul]) rfl rfl f_9_97 rfl (by decide) rfl ?_
  refine x_if_le rfl rfl (fun _ => ?_) (fun hc6 => absurd hc6 (by decide +kernel))
  refine x_aload_n rfl rfl rfl ?_
  refine x_getR0 rfl rfl f_9_39 rfl (by decide) rfl rfl ?_
  refine x_bipush (v := nI 8) rfl rfl (by decide +kernel) ?_
  refine x_iload_n rfl rfl rfl ?_
  refine x_imulN (a := 8) (b := i) rfl rfl ?_
  refine x_aload_n rfl rfl rfl ?_
  refine x_getR0 rfl rfl f_9_33 rfl (by decide) rfl rfl ?_
  refine x_iload_n rfl rfl rfl ?_
  refine x_ialdv (a := i) (v := nI il) (by first | exact hil | (rw [← hil]; rfl) | simp [ui, ul, hil]) rfl rfl rfl (by decide) (by omega) (by decide) ?_
  refine x_iaddN (a := 8 * i) (b := il) rfl rfl ?_
  refine x_lload_n rfl rfl rfl ?_
  refine x_last (a := (8 * i) + il) rfl rfl rfl (by decide) (by omega) (by decide) ?_
  refine x_aload_n rfl rfl rfl ?_
  refine x_getR0 rfl rfl f_9_33 rfl (by decide) rfl rfl ?_
  refine x_iload_n rfl rfl rfl ?_
  refine x_dup2 rfl rfl rfl rfl ?_
  refine x_ialdv (a := i) (v := nI il) (by first | exact hil | (rw [← hil]; rfl) | simp [ui, ul, hil]) rfl rfl rfl (by decide) (by omega) (by decide) ?_
  refine x_iconstN (b := 1) rfl rfl ?_
  refine x_iaddN (a := il) (b := 1) rfl rfl ?_
  refine x_iast (a := i) rfl rfl rfl (by decide) (by omega) (by decide) ?_
  refine x_aload_n rfl rfl rfl ?_
  refine x_getR0 rfl rfl f_9_33 rfl (by decide) rfl rfl ?_
  refine x_iload_n rfl rfl rfl ?_
  refine x_ialdv (a := i) (v := nI (il + 1)) (by first | rfl | simp [ui, ul]) rfl rfl rfl (by decide) (by omega) (by decide) ?_
  exact x_retI rfl rfl rfl (by omega) rfl rfl
set_option maxHeartbeats 4000000 in
set_option maxRecDepth 20000 in
theorem c_mappendF (hG : Gok G) (hd : 3 ≤ d) (v : Int64) {n : Nat} (hn : M.1 (40, 0) 8 = nI n) (hn2 : n ≤ 40) {w : Nat} (hw : M.1 (40, 0) 1 = nI w) (hw2 : w ≤ 40) {i : Nat} (hi : i < n) (hil : M.1 (48, 0) i = nI 8) (hkd : M.1 (46, 0) i = nI 9) (hv : isV w n v) : Ct G mX9_append d [.ref (ga G (40, 0)), .int (nI i), .long (v)] M (.inl (some (.int (nI 0)))) (ui M (40, 0) 0 (nI 2)) 0 := by
  refine ct_of hG okX9_append (by decide +kernel) rfl (Nat.le_of_ble_eq_true rfl) ?_
  refine x_aload_n rfl rfl rfl ?_
  refine x_iload_n rfl rfl rfl ?_
  refine x_callVi (d2 := 0) (c_misThing (n := n) hG hn (by omega) (by omega)) rfl rfl v_9_152 rfl rfl (by decide) rfl rfl (Nat.le_of_ble_eq_true rfl) (by omega) (by omega) ?_
  refine x_if_eq rfl rfl (fun hc1 => absurd hc1 (by decide +kernel)) (fun _ => ?_)
  refine x_aload_n rfl rfl rfl ?_
  refine x_getR0 rfl rfl f_9_27 rfl (by decide) rfl rfl ?_
  refine x_iload_n rfl rfl rfl ?_
  refine x_ialdv (a := i) (v := nI 9) hkd rfl rfl rfl (by decide) (by omega) (by decide) ?_
  refine x_bipush (v := nI 9) rfl rfl (by decide +kernel) ?_
  refine x_icmpN_ne (by omega) (by omega) rfl rfl (fun hc2 => absurd hc2 (by omega)) (fun hc2 => ?_)
  refine x_aload_n rfl rfl rfl ?_
  refine x_lload_n rfl rfl rfl ?_
  refine x_callVi (d2 := 2) (c_misValue (n := n) (w := w) hG (Nat.le_refl 2) (v) hn hn2 hw hw2) rfl rfl v_9_156 rfl rfl (by decide) rfl rfl (Nat.le_of_ble_eq_true rfl) (by omega) (by omega) ?_
  refine x_ifB_eq rfl rfl (fun hc3 => absurd hv hc3) (fun hc3 => ?_)
  refine x_iconstN (b := 1) rfl rfl ?_
  refine x_goto rfl rfl ?_
  refine x_istore rfl rfl rfl rfl ?_
  refine x_aload_n rfl rfl rfl ?_
  refine x_iload rfl rfl rfl ?_
  refine x_if_ne rfl rfl (fun _ => ?_) (fun hc4 => absurd hc4 (by decide +kernel))
  refine x_aload_n rfl rfl rfl ?_
  refine x_getR0 rfl rfl f_9_33 rfl (by decide) rfl rfl ?_
  refine x_iload_n rfl rfl rfl ?_
  refine x_ialdv (a := i) (v := nI 8) hil rfl rfl rfl (by decide) (by omega) (by decide) ?_
  refine x_bipush (v := nI 8) rfl rfl (by decide +kernel) ?_
  refine x_icmpN_ne (by omega) (by omega) rfl rfl (fun hc5 => absurd hc5 (by omega)) (fun hc5 => ?_)
  refine x_iconstN (b := 2) rfl rfl ?_
  refine x_goto rfl rfl ?_
  refine x_putI rfl rfl f_9_97 rfl rfl (by decide) rfl ?_
  refine x_aload_n rfl rfl rfl ?_
  refine x_getIv (v := nI 2) (by first | rfl | simp [ui, ul]) rfl rfl f_9_97 rfl (by decide) rfl ?_
  refine x_if_le rfl rfl (fun hc6 => absurd hc6 (by decide +kernel)) (fun _ => ?_)
  refine x_iconstN (b := 0) rfl rfl ?_
  exact x_retI rfl rfl rfl (by omega) rfl rfl
set_option maxHeartbeats 4000000 in
set_option maxRecDepth 20000 in
theorem c_mappendV (hG : Gok G) (hd : 3 ≤ d) (v : Int64) {n : Nat} (hn : M.1 (40, 0) 8 = nI n) (hn2 : n ≤ 40) {w : Nat} (hw : M.1 (40, 0) 1 = nI w) (hw2 : w ≤ 40) {i : Nat} (hi : i < n) (hkd : M.1 (46, 0) i = nI 9) (hv : ¬ isV w n v) : Ct G mX9_append d [.ref (ga G (40, 0)), .int (nI i), .long (v)] M (.inl (some (.int (nI 0)))) (ui M (40, 0) 0 (nI 1)) 0 := by
  refine ct_of hG okX9_append (by decide +kernel) rfl (Nat.le_of_ble_eq_true rfl) ?_
  refine x_aload_n rfl rfl rfl ?_
  refine x_iload_n rfl rfl rfl ?_
  refine x_callVi (d2 := 0) (c_misThing (n := n) hG hn (by omega) (by omega)) rfl rfl v_9_152 rfl rfl (by decide) rfl rfl (Nat.le_of_ble_eq_true rfl) (by omega) (by omega) ?_
  refine x_if_eq rfl rfl (fun hc1 => absurd hc1 (by decide +kernel)) (fun _ => ?_)
  refine x_aload_n rfl rfl rfl ?_
  refine x_getR0 rfl rfl f_9_27 rfl (by decide) rfl rfl ?_
  refine x_iload_n rfl rfl rfl ?_
  refine x_ialdv (a := i) (v := nI 9) hkd rfl rfl rfl (by decide) (by omega) (by decide) ?_
  refine x_bipush (v := nI 9) rfl rfl (by decide +kernel) ?_
  refine x_icmpN_ne (by omega) (by omega) rfl rfl (fun hc2 => absurd hc2 (by omega)) (fun hc2 => ?_)
  refine x_aload_n rfl rfl rfl ?_
  refine x_lload_n rfl rfl rfl ?_
  refine x_callVi (d2 := 2) (c_misValue (n := n) (w := w) hG (Nat.le_refl 2) (v) hn hn2 hw hw2) rfl rfl v_9_156 rfl rfl (by decide) rfl rfl (Nat.le_of_ble_eq_true rfl) (by omega) (by omega) ?_
  refine x_ifB_eq rfl rfl (fun hc3 => ?_) (fun hc3 => absurd hc3 hv)
  refine x_iconstN (b := 0) rfl rfl ?_
  refine x_istore rfl rfl rfl rfl ?_
  refine x_aload_n rfl rfl rfl ?_
  refine x_iload rfl rfl rfl ?_
  refine x_if_ne rfl rfl (fun hc4 => absurd hc4 (by decide +kernel)) (fun _ => ?_)
  refine x_iconstN (b := 1) rfl rfl ?_
  refine x_goto rfl rfl ?_
  refine x_putI rfl rfl f_9_97 rfl rfl (by decide) rfl ?_
  refine x_aload_n rfl rfl rfl ?_
  refine x_getIv (v := nI 1) (by first | rfl | simp [ui, ul]) rfl rfl f_9_97 rfl (by decide) rfl ?_
  refine x_if_le rfl rfl (fun hc5 => absurd hc5 (by decide +kernel)) (fun _ => ?_)
  refine x_iconstN (b := 0) rfl rfl ?_
  exact x_retI rfl rfl rfl (by omega) rfl rfl
set_option maxHeartbeats 4000000 in
set_option maxRecDepth 20000 in
theorem c_mappendK (hG : Gok G) (hd : 3 ≤ d) (v : Int64) {n : Nat} (hn : M.1 (40, 0) 8 = nI n) (hn2 : n ≤ 40) {i : Nat} (hi : i < n) {kd : Nat} (hkd : M.1 (46, 0) i = nI kd) (hkd2 : kd < 16) (hne : kd ≠ 9) : Ct G mX9_append d [.ref (ga G (40, 0)), .int (nI i), .long (v)] M (.inl (some (.int (nI 0)))) (ui M (40, 0) 0 (nI 1)) 0 := by
  refine ct_of hG okX9_append (by decide +kernel) rfl (Nat.le_of_ble_eq_true rfl) ?_
  refine x_aload_n rfl rfl rfl ?_
  refine x_iload_n rfl rfl rfl ?_
  refine x_callVi (d2 := 0) (c_misThing (n := n) hG hn (by omega) (by omega)) rfl rfl v_9_152 rfl rfl (by decide) rfl rfl (Nat.le_of_ble_eq_true rfl) (by omega) (by omega) ?_
  refine x_if_eq rfl rfl (fun hc1 => absurd hc1 (by decide +kernel)) (fun _ => ?_)
  refine x_aload_n rfl rfl rfl ?_
  refine x_getR0 rfl rfl f_9_27 rfl (by decide) rfl rfl ?_
  refine x_iload_n rfl rfl rfl ?_
  refine x_ialdv (a := i) (v := nI kd) hkd rfl rfl rfl (by decide) (by omega) (by decide) ?_
  refine x_bipush (v := nI 9) rfl rfl (by decide +kernel) ?_
  refine x_icmpN_ne (by omega) (by omega) rfl rfl (fun hc2 => ?_) (fun hc2 => absurd hc2 hne)
  refine x_iconstN (b := 0) rfl rfl ?_
  refine x_istore rfl rfl rfl rfl ?_
  refine x_aload_n rfl rfl rfl ?_
  refine x_iload rfl rfl rfl ?_
  refine x_if_ne rfl rfl (fun hc3 => absurd hc3 (by decide +kernel)) (fun _ => ?_)
  refine x_iconstN (b := 1) rfl rfl ?_
  refine x_goto rfl rfl ?_
  refine x_putI rfl rfl f_9_97 rfl rfl (by decide) rfl ?_
  refine x_aload_n rfl rfl rfl ?_
  refine x_getIv (v := nI 1) (by first | rfl | simp [ui, ul]) rfl rfl f_9_97 rfl (by decide) rfl ?_
  refine x_if_le rfl rfl (fun hc4 => absurd hc4 (by decide +kernel)) (fun _ => ?_)
  refine x_iconstN (b := 0) rfl rfl ?_
  exact x_retI rfl rfl rfl (by omega) rfl rfl
set_option maxHeartbeats 4000000 in
set_option maxRecDepth 20000 in
theorem c_mappendT (hG : Gok G) (hd : 3 ≤ d) (v : Int64) {n : Nat} (hn : M.1 (40, 0) 8 = nI n) (hn2 : n ≤ 40) {th : Int32} (ho : ∀ i, i < n → th ≠ nI i) : Ct G mX9_append d [.ref (ga G (40, 0)), .int (th), .long (v)] M (.inl (some (.int (nI 0)))) (ui M (40, 0) 0 (nI 1)) 0 := by
  refine ct_of hG okX9_append (by decide +kernel) rfl (Nat.le_of_ble_eq_true rfl) ?_
  refine x_aload_n rfl rfl rfl ?_
  refine x_iload_n rfl rfl rfl ?_
  refine x_callVi (d2 := 0) (c_misThingO (n := n) hG hn hn2 ho) rfl rfl v_9_152 rfl rfl (by decide) rfl rfl (Nat.le_of_ble_eq_true rfl) (by omega) (by omega) ?_
  refine x_if_eq rfl rfl (fun _ => ?_) (fun hc1 => absurd hc1 (by decide +kernel))
  refine x_iconstN (b := 0) rfl rfl ?_
  refine x_istore rfl rfl rfl rfl ?_
  refine x_aload_n rfl rfl rfl ?_
  refine x_iload rfl rfl rfl ?_
  refine x_if_ne rfl rfl (fun hc2 => absurd hc2 (by decide +kernel)) (fun _ => ?_)
  refine x_iconstN (b := 1) rfl rfl ?_
  refine x_goto rfl rfl ?_
  refine x_putI rfl rfl f_9_97 rfl rfl (by decide) rfl ?_
  refine x_aload_n rfl rfl rfl ?_
  refine x_getIv (v := nI 1) (by first | rfl | simp [ui, ul]) rfl rfl f_9_97 rfl (by decide) rfl ?_
  refine x_if_le rfl rfl (fun hc3 => absurd hc3 (by decide +kernel)) (fun _ => ?_)
  refine x_iconstN (b := 0) rfl rfl ?_
  exact x_retI rfl rfl rfl (by omega) rfl rfl
set_option maxHeartbeats 4000000 in
set_option maxRecDepth 20000 in
theorem c_mitemT (hG : Gok G) (hd : 1 ≤ d) {n : Nat} (hn : M.1 (40, 0) 8 = nI n) (hn2 : n ≤ 40) {th : Int32} (ho : ∀ i, i < n → th ≠ nI i) (j : Int32) : Ct G mX9_item d [.ref (ga G (40, 0)), .int (th), .int (j)] M (.inl (some (.long ((-1))))) (ui M (40, 0) 0 (nI 0)) 0 := by
  refine ct_of hG okX9_item (by decide +kernel) rfl (Nat.le_of_ble_eq_true rfl) ?_
  refine x_aload_n rfl rfl rfl ?_
  refine x_iconstN (b := 0) rfl rfl ?_
  refine x_putI rfl rfl f_9_97 rfl rfl (by decide) rfl ?_
  refine x_aload_n rfl rfl rfl ?_
  refine x_iload_n rfl rfl rfl ?_
  refine x_callVi (d2 := 0) (c_misThingO (n := n) hG (by first | exact hn | (rw [← hn]; rfl) | simp [ui, ul, hn]) hn2 ho) rfl rfl v_9_152 rfl rfl (by decide) rfl rfl (Nat.le_of_ble_eq_true rfl) (by omega) (by omega) ?_
  refine x_if_eq rfl rfl (fun _ => ?_) (fun hc1 => absurd hc1 (by decide +kernel))
  refine x_ldc2 (v := -1) rfl rfl k_9_290 ?_
  exact x_retL rfl rfl rfl (by omega) rfl rfl
set_option maxHeartbeats 4000000 in
set_option maxRecDepth 20000 in
theorem c_mitemN (hG : Gok G) (hd : 1 ≤ d) {n : Nat} (hn : M.1 (40, 0) 8 = nI n) (hn2 : n ≤ 40) {i : Nat} (hi : i < n) {j : Int32} (hj : j < 0) : Ct G mX9_item d [.ref (ga G (40, 0)), .int (nI i), .int (j)] M (.inl (some (.long ((-1))))) (ui M (40, 0) 0 (nI 0)) 0 := by
  refine ct_of hG okX9_item (by decide +kernel) rfl (Nat.le_of_ble_eq_true rfl) ?_
  refine x_aload_n rfl rfl rfl ?_
  refine x_iconstN (b := 0) rfl rfl ?_
  refine x_putI rfl rfl f_9_97 rfl rfl (by decide) rfl ?_
  refine x_aload_n rfl rfl rfl ?_
  refine x_iload_n rfl rfl rfl ?_
  refine x_callVi (d2 := 0) (c_misThing (n := n) hG (by first | exact hn | (rw [← hn]; rfl) | simp [ui, ul, hn]) (by omega) (by omega)) rfl rfl v_9_152 rfl rfl (by decide) rfl rfl (Nat.le_of_ble_eq_true rfl) (by omega) (by omega) ?_
  refine x_if_eq rfl rfl (fun hc1 => absurd hc1 (by decide +kernel)) (fun _ => ?_)
  refine x_iload_n rfl rfl rfl ?_
  refine x_if_ge rfl rfl (fun hc2 => absurd hc2 (Int32.not_le.mpr hj)) (fun hc2 => ?_)
  refine x_ldc2 (v := -1) rfl rfl k_9_290 ?_
  exact x_retL rfl rfl rfl (by omega) rfl rfl
set_option maxHeartbeats 4000000 in
set_option maxRecDepth 20000 in
theorem c_mitemD (hG : Gok G) (hd : 1 ≤ d) {n : Nat} (hn : M.1 (40, 0) 8 = nI n) (hn2 : n ≤ 40) {i : Nat} (hi : i < n) (hkd : M.1 (46, 0) i = nI 8) : Ct G mX9_item d [.ref (ga G (40, 0)), .int (nI i), .int (nI 0)] M (.inl (some (.long (M.2 (47, 0) i)))) (ui M (40, 0) 0 (nI 0)) 0 := by
  refine ct_of hG okX9_item (by decide +kernel) rfl (Nat.le_of_ble_eq_true rfl) ?_
  refine x_aload_n rfl rfl rfl ?_
  refine x_iconstN (b := 0) rfl rfl ?_
  refine x_putI rfl rfl f_9_97 rfl rfl (by decide) rfl ?_
  refine x_aload_n rfl rfl rfl ?_
  refine x_iload_n rfl rfl rfl ?_
  refine x_callVi (d2 := 0) (c_misThing (n := n) hG (by first | exact hn | (rw [← hn]; rfl) | simp [ui, ul, hn]) (by omega) (by omega)) rfl rfl v_9_152 rfl rfl (by decide) rfl rfl (Nat.le_of_ble_eq_true rfl) (by omega) (by omega) ?_
  refine x_if_eq rfl rfl (fun hc1 => absurd hc1 (by decide +kernel)) (fun _ => ?_)
  refine x_iload_n rfl rfl rfl ?_
  refine x_if_ge rfl rfl (fun _ => ?_) (fun hc2 => absurd hc2 (by decide +kernel))
  refine x_aload_n rfl rfl rfl ?_
  refine x_getR0 rfl rfl f_9_27 rfl (by decide) rfl rfl ?_
  refine x_iload_n rfl rfl rfl ?_
  refine x_ialdv (a := i) (v := nI 8) (by first | exact hkd | (rw [← hkd]; rfl) | simp [ui, ul, hkd]) rfl rfl rfl (by decide) (by omega) (by decide) ?_
  refine x_bipush (v := nI 8) rfl rfl (by decide +kernel) ?_
  refine x_icmpN_ne (by omega) (by omega) rfl rfl (fun hc3 => absurd hc3 (by omega)) (fun hc3 => ?_)
  refine x_iload_n rfl rfl rfl ?_
  refine x_if_ne rfl rfl (fun hc4 => absurd hc4 (by decide +kernel)) (fun _ => ?_)
  refine x_aload_n rfl rfl rfl ?_
  refine x_getR0 rfl rfl f_9_30 rfl (by decide) rfl rfl ?_
  refine x_iload_n rfl rfl rfl ?_
  refine x_laldv (a := i) (v := M.2 (47, 0) i) (by first | rfl | simp [ui, ul]) rfl rfl rfl (by decide) (by omega) (by decide) ?_
  refine x_goto rfl rfl ?_
  exact x_retL rfl rfl rfl (by omega) rfl rfl
set_option maxHeartbeats 4000000 in
set_option maxRecDepth 20000 in
theorem c_mitemDO (hG : Gok G) (hd : 1 ≤ d) {n : Nat} (hn : M.1 (40, 0) 8 = nI n) (hn2 : n ≤ 40) {i : Nat} (hi : i < n) (hkd : M.1 (46, 0) i = nI 8) {j : Nat} (hj : 0 < j) (hj2 : j < 2 ^ 31) : Ct G mX9_item d [.ref (ga G (40, 0)), .int (nI i), .int (nI j)] M (.inl (some (.long ((-1))))) (ui M (40, 0) 0 (nI 0)) 0 := by
  refine ct_of hG okX9_item (by decide +kernel) rfl (Nat.le_of_ble_eq_true rfl) ?_
  refine x_aload_n rfl rfl rfl ?_
  refine x_iconstN (b := 0) rfl rfl ?_
  refine x_putI rfl rfl f_9_97 rfl rfl (by decide) rfl ?_
  refine x_aload_n rfl rfl rfl ?_
  refine x_iload_n rfl rfl rfl ?_
  refine x_callVi (d2 := 0) (c_misThing (n := n) hG (by first | exact hn | (rw [← hn]; rfl) | simp [ui, ul, hn]) (by omega) (by omega)) rfl rfl v_9_152 rfl rfl (by decide) rfl rfl (Nat.le_of_ble_eq_true rfl) (by omega) (by omega) ?_
  refine x_if_eq rfl rfl (fun hc1 => absurd hc1 (by decide +kernel)) (fun _ => ?_)
  refine x_iload_n rfl rfl rfl ?_
  refine x_ifN_ge (by omega) rfl rfl (fun hc2 => ?_) (fun hc2 => hc2.elim)
  refine x_aload_n rfl rfl rfl ?_
  refine x_getR0 rfl rfl f_9_27 rfl (by decide) rfl rfl ?_
  refine x_iload_n rfl rfl rfl ?_
  refine x_ialdv (a := i) (v := nI 8) (by first | exact hkd | (rw [← hkd]; rfl) | simp [ui, ul, hkd]) rfl rfl rfl (by decide) (by omega) (by decide) ?_
  refine x_bipush (v := nI 8) rfl rfl (by decide +kernel) ?_
  refine x_icmpN_ne (by omega) (by omega) rfl rfl (fun hc3 => absurd hc3 (by omega)) (fun hc3 => ?_)
  refine x_iload_n rfl rfl rfl ?_
  refine x_ifN_ne (by omega) rfl rfl (fun hc4 => ?_) (fun hc4 => absurd hc4 (by omega))
  refine x_ldc2 (v := -1) rfl rfl k_9_290 ?_
  exact x_retL rfl rfl rfl (by omega) rfl rfl
set_option maxHeartbeats 4000000 in
set_option maxRecDepth 20000 in
theorem c_mitemO (hG : Gok G) (hd : 1 ≤ d) {n : Nat} (hn : M.1 (40, 0) 8 = nI n) (hn2 : n ≤ 40) {i : Nat} (hi : i < n) {kd : Nat} (hkd : M.1 (46, 0) i = nI kd) (hkd2 : kd < 16) (hne : kd ≠ 8) {il j : Nat} (hil : M.1 (48, 0) i = nI il) (hil2 : il ≤ 8) (hj : il ≤ j) (hj2 : j < 2 ^ 31) : Ct G mX9_item d [.ref (ga G (40, 0)), .int (nI i), .int (nI j)] M (.inl (some (.long ((-1))))) (ui M (40, 0) 0 (nI 0)) 0 := by
  refine ct_of hG okX9_item (by decide +kernel) rfl (Nat.le_of_ble_eq_true rfl) ?_
  refine x_aload_n rfl rfl rfl ?_
  refine x_iconstN (b := 0) rfl rfl ?_
  refine x_putI rfl rfl f_9_97 rfl rfl (by decide) rfl ?_
  refine x_aload_n rfl rfl rfl ?_
  refine x_iload_n rfl rfl rfl ?_
  refine x_callVi (d2 := 0) (c_misThing (n := n) hG (by first | exact hn | (rw [← hn]; rfl) | simp [ui, ul, hn]) (by omega) (by omega)) rfl rfl v_9_152 rfl rfl (by decide) rfl rfl (Nat.le_of_ble_eq_true rfl) (by omega) (by omega) ?_
  refine x_if_eq rfl rfl (fun hc1 => absurd hc1 (by decide +kernel)) (fun _ => ?_)
  refine x_iload_n rfl rfl rfl ?_
  refine x_ifN_ge (by omega) rfl rfl (fun hc2 => ?_) (fun hc2 => hc2.elim)
  refine x_aload_n rfl rfl rfl ?_
  refine x_getR0 rfl rfl f_9_27 rfl (by decide) rfl rfl ?_
  refine x_iload_n rfl rfl rfl ?_
  refine x_ialdv (a := i) (v := nI kd) (by first | exact hkd | (rw [← hkd]; rfl) | simp [ui, ul, hkd]) rfl rfl rfl (by decide) (by omega) (by decide) ?_
  refine x_bipush (v := nI 8) rfl rfl (by decide +kernel) ?_
  refine x_icmpN_ne (by omega) (by omega) rfl rfl (fun hc3 => ?_) (fun hc3 => absurd hc3 hne)
  refine x_iload_n rfl rfl rfl ?_
  refine x_aload_n rfl rfl rfl ?_
  refine x_getR0 rfl rfl f_9_33 rfl (by decide) rfl rfl ?_
  refine x_iload_n rfl rfl rfl ?_
  refine x_ialdv (a := i) (v := nI il) (by first | exact hil | (rw [← hil]; rfl) | simp [ui, ul, hil]) rfl rfl rfl (by decide) (by omega) (by decide) ?_
  refine x_icmpN_lt (by omega) (by omega) rfl rfl (fun hc4 => absurd hc4 (by omega)) (fun hc4 => ?_)
  refine x_ldc2 (v := -1) rfl rfl k_9_290 ?_
  exact x_retL rfl rfl rfl (by omega) rfl rfl
set_option maxHeartbeats 4000000 in
set_option maxRecDepth 20000 in
theorem c_mitemB (hG : Gok G) (hd : 1 ≤ d) {n : Nat} (hn : M.1 (40, 0) 8 = nI n) (hn2 : n ≤ 40) {i : Nat} (hi : i < n) (hkd : M.1 (46, 0) i = nI 12) {il j : Nat} (hil : M.1 (48, 0) i = nI il) (hil2 : il ≤ 8) (hj : j < il) : Ct G mX9_item d [.ref (ga G (40, 0)), .int (nI i), .int (nI j)] M (.inl (some (.long ((16 * (((((M.2 (47, 0) i)).toUInt64 >>> ((nI (8 * j)).toInt64.toUInt64 &&& Int64.toUInt64 63)).toInt64) &&& 255)) + 4)))) (ui M (40, 0) 0 (nI 0)) 0 := by
  refine ct_of hG okX9_item (by decide +kernel) rfl (Nat.le_of_ble_eq_true rfl) ?_
  refine x_aload_n rfl rfl rfl ?_
  refine x_iconstN (b := 0) rfl rfl ?_
  refine x_putI rfl rfl f_9_97 rfl rfl (by decide) rfl ?_
  refine x_aload_n rfl rfl rfl ?_
  refine x_iload_n rfl rfl rfl ?_
  refine x_callVi (d2 := 0) (c_misThing (n := n) hG (by first | exact hn | (rw [← hn]; rfl) | simp [ui, ul, hn]) (by omega) (by omega)) rfl rfl v_9_152 rfl rfl (by decide) rfl rfl (Nat.le_of_ble_eq_true rfl) (by omega) (by omega) ?_
  refine x_if_eq rfl rfl (fun hc1 => absurd hc1 (by decide +kernel)) (fun _ => ?_)
  refine x_iload_n rfl rfl rfl ?_
  refine x_ifN_ge (by omega) rfl rfl (fun hc2 => ?_) (fun hc2 => hc2.elim)
  refine x_aload_n rfl rfl rfl ?_
  refine x_getR0 rfl rfl f_9_27 rfl (by decide) rfl rfl ?_
  refine x_iload_n rfl rfl rfl ?_
  refine x_ialdv (a := i) (v := nI 12) (by first | exact hkd | (rw [← hkd]; rfl) | simp [ui, ul, hkd]) rfl rfl rfl (by decide) (by omega) (by decide) ?_
  refine x_bipush (v := nI 8) rfl rfl (by decide +kernel) ?_
  refine x_icmpN_ne (by omega) (by omega) rfl rfl (fun hc3 => ?_) (fun hc3 => absurd hc3 (by omega))
  refine x_iload_n rfl rfl rfl ?_
  refine x_aload_n rfl rfl rfl ?_
  refine x_getR0 rfl rfl f_9_33 rfl (by decide) rfl rfl ?_
  refine x_iload_n rfl rfl rfl ?_
  refine x_ialdv (a := i) (v := nI il) (by first | exact hil | (rw [← hil]; rfl) | simp [ui, ul, hil]) rfl rfl rfl (by decide) (by omega) (by decide) ?_
  refine x_icmpN_lt (by omega) (by omega) rfl rfl (fun hc4 => ?_) (fun hc4 => absurd hc4 (by omega))
  refine x_aload_n rfl rfl rfl ?_
  refine x_getR0 rfl rfl f_9_27 rfl (by decide) rfl rfl ?_
  refine x_iload_n rfl rfl rfl ?_
  refine x_ialdv (a := i) (v := nI 12) (by first | exact hkd | (rw [← hkd]; rfl) | simp [ui, ul, hkd]) rfl rfl rfl (by decide) (by omega) (by decide) ?_
  refine x_bipush (v := nI 12) rfl rfl (by decide +kernel) ?_
  refine x_icmpN_ne (by omega) (by omega) rfl rfl (fun hc5 => absurd hc5 (by omega)) (fun hc5 => ?_)
  refine x_ldc2 (v := 16) rfl rfl k_9_128 ?_
  refine x_aload_n rfl rfl rfl ?_
  refine x_getR0 rfl rfl f_9_30 rfl (by decide) rfl rfl ?_
  refine x_iload_n rfl rfl rfl ?_
  refine x_laldv (a := i) (v := M.2 (47, 0) i) (by first | rfl | simp [ui, ul]) rfl rfl rfl (by decide) (by omega) (by decide) ?_
  refine x_bipush (v := nI 8) rfl rfl (by decide +kernel) ?_
  refine x_iload_n rfl rfl rfl ?_
  refine x_imulN (a := 8) (b := j) rfl rfl ?_
  refine x_lushr rfl rfl ?_
  refine x_ldc2 (v := 255) rfl rfl k_9_104 ?_
  refine x_land rfl rfl ?_
  refine x_lmul rfl rfl ?_
  refine x_ldc2 (v := 4) rfl rfl k_9_261 ?_
  refine x_ladd rfl rfl ?_
  refine x_goto rfl rfl ?_
  exact x_retL rfl rfl rfl (by omega) rfl rfl
set_option maxHeartbeats 4000000 in
set_option maxRecDepth 20000 in
theorem c_mitemI (hG : Gok G) (hd : 1 ≤ d) {n : Nat} (hn : M.1 (40, 0) 8 = nI n) (hn2 : n ≤ 40) {i : Nat} (hi : i < n) {kd : Nat} (hkd : M.1 (46, 0) i = nI kd) (hkd2 : kd < 16) (hne : kd ≠ 8) (hn12 : kd ≠ 12) {il j : Nat} (hil : M.1 (48, 0) i = nI il) (hil2 : il ≤ 8) (hj : j < il) : Ct G mX9_item d [.ref (ga G (40, 0)), .int (nI i), .int (nI j)] M (.inl (some (.long (M.2 (50, 0) ((8 * i) + j))))) (ui M (40, 0) 0 (nI 0)) 0 := by
  refine ct_of hG okX9_item (by decide +kernel) rfl (Nat.le_of_ble_eq_true rfl) ?_
  refine x_aload_n rfl rfl rfl ?_
  refine x_iconstN (b := 0) rfl rfl ?_
  refine x_putI rfl rfl f_9_97 rfl rfl (by decide) rfl ?_
  refine x_aload_n rfl rfl rfl ?_
  refine x_iload_n rfl rfl rfl ?_
  refine x_callVi (d2 := 0) (c_misThing (n := n) hG (by first | exact hn | (rw [← hn]; rfl) | simp [ui, ul, hn]) (by omega) (by omega)) rfl rfl v_9_152 rfl rfl (by decide) rfl rfl (Nat.le_of_ble_eq_true rfl) (by omega) (by omega) ?_
  refine x_if_eq rfl rfl (fun hc1 => absurd hc1 (by decide +kernel)) (fun _ => ?_)
  refine x_iload_n rfl rfl rfl ?_
  refine x_ifN_ge (by omega) rfl rfl (fun hc2 => ?_) (fun hc2 => hc2.elim)
  refine x_aload_n rfl rfl rfl ?_
  refine x_getR0 rfl rfl f_9_27 rfl (by decide) rfl rfl ?_
  refine x_iload_n rfl rfl rfl ?_
  refine x_ialdv (a := i) (v := nI kd) (by first | exact hkd | (rw [← hkd]; rfl) | simp [ui, ul, hkd]) rfl rfl rfl (by decide) (by omega) (by decide) ?_
  refine x_bipush (v := nI 8) rfl rfl (by decide +kernel) ?_
  refine x_icmpN_ne (by omega) (by omega) rfl rfl (fun hc3 => ?_) (fun hc3 => absurd hc3 hne)
  refine x_iload_n rfl rfl rfl ?_
  refine x_aload_n rfl rfl rfl ?_
  refine x_getR0 rfl rfl f_9_33 rfl (by decide) rfl rfl ?_
  refine x_iload_n rfl rfl rfl ?_
  refine x_ialdv (a := i) (v := nI il) (by first | exact hil | (rw [← hil]; rfl) | simp [ui, ul, hil]) rfl rfl rfl (by decide) (by omega) (by decide) ?_
  refine x_icmpN_lt (by omega) (by omega) rfl rfl (fun hc4 => ?_) (fun hc4 => absurd hc4 (by omega))
  refine x_aload_n rfl rfl rfl ?_
  refine x_getR0 rfl rfl f_9_27 rfl (by decide) rfl rfl ?_
  refine x_iload_n rfl rfl rfl ?_
  refine x_ialdv (a := i) (v := nI kd) (by first | exact hkd | (rw [← hkd]; rfl) | simp [ui, ul, hkd]) rfl rfl rfl (by decide) (by omega) (by decide) ?_
  refine x_bipush (v := nI 12) rfl rfl (by decide +kernel) ?_
  refine x_icmpN_ne (by omega) (by omega) rfl rfl (fun hc5 => ?_) (fun hc5 => absurd hc5 hn12)
  refine x_aload_n rfl rfl rfl ?_
  refine x_getR0 rfl rfl f_9_39 rfl (by decide) rfl rfl ?_
  refine x_bipush (v := nI 8) rfl rfl (by decide +kernel) ?_
  refine x_iload_n rfl rfl rfl ?_
  refine x_imulN (a := 8) (b := i) rfl rfl ?_
  refine x_iload_n rfl rfl rfl ?_
  refine x_iaddN (a := 8 * i) (b := j) rfl rfl ?_
  refine x_laldv (a := (8 * i) + j) (v := M.2 (50, 0) ((8 * i) + j)) (by first | rfl | simp [ui, ul]) rfl rfl rfl (by decide) (by omega) (by decide) ?_
  exact x_retL rfl rfl rfl (by omega) rfl rfl
set_option maxHeartbeats 4000000 in
set_option maxRecDepth 20000 in
theorem c_mpairT (hG : Gok G) (hd : 1 ≤ d) {n : Nat} (hn : M.1 (40, 0) 8 = nI n) (hn2 : n ≤ 40) {th : Int32} (ho : ∀ i, i < n → th ≠ nI i) (j k : Int32) : Ct G mX9_pair d [.ref (ga G (40, 0)), .int (th), .int (j), .int (k)] M (.inl (some (.long ((-1))))) (ui M (40, 0) 0 (nI 0)) 0 := by
  refine ct_of hG okX9_pair (by decide +kernel) rfl (Nat.le_of_ble_eq_true rfl) ?_
  refine x_aload_n rfl rfl rfl ?_
  refine x_iconstN (b := 0) rfl rfl ?_
  refine x_putI rfl rfl f_9_97 rfl rfl (by decide) rfl ?_
  refine x_aload_n rfl rfl rfl ?_
  refine x_iload_n rfl rfl rfl ?_
  refine x_callVi (d2 := 0) (c_misThingO (n := n) hG (by first | exact hn | (rw [← hn]; rfl) | simp [ui, ul, hn]) hn2 ho) rfl rfl v_9_152 rfl rfl (by decide) rfl rfl (Nat.le_of_ble_eq_true rfl) (by omega) (by omega) ?_
  refine x_if_eq rfl rfl (fun _ => ?_) (fun hc1 => absurd hc1 (by decide +kernel))
  refine x_ldc2 (v := -1) rfl rfl k_9_290 ?_
  exact x_retL rfl rfl rfl (by omega) rfl rfl
set_option maxHeartbeats 4000000 in
set_option maxRecDepth 20000 in
theorem c_mpairN (hG : Gok G) (hd : 1 ≤ d) {n : Nat} (hn : M.1 (40, 0) 8 = nI n) (hn2 : n ≤ 40) {i : Nat} (hi : i < n) {j : Int32} (k : Int32) (hj : j < 0) : Ct G mX9_pair d [.ref (ga G (40, 0)), .int (nI i), .int (j), .int (k)] M (.inl (some (.long ((-1))))) (ui M (40, 0) 0 (nI 0)) 0 := by
  refine ct_of hG okX9_pair (by decide +kernel) rfl (Nat.le_of_ble_eq_true rfl) ?_
  refine x_aload_n rfl rfl rfl ?_
  refine x_iconstN (b := 0) rfl rfl ?_
  refine x_putI rfl rfl f_9_97 rfl rfl (by decide) rfl ?_
  refine x_aload_n rfl rfl rfl ?_
  refine x_iload_n rfl rfl rfl ?_
  refine x_callVi (d2 := 0) (c_misThing (n := n) hG (by first | exact hn | (rw [← hn]; rfl) | simp [ui, ul, hn]) (by omega) (by omega)) rfl rfl v_9_152 rfl rfl (by decide) rfl rfl (Nat.le_of_ble_eq_true rfl) (by omega) (by omega) ?_
  refine x_if_eq rfl rfl (fun hc1 => absurd hc1 (by decide +kernel)) (fun _ => ?_)
  refine x_iload_n rfl rfl rfl ?_
  refine x_if_lt rfl rfl (fun hc2 => ?_) (fun hc2 => absurd hj hc2)
  refine x_ldc2 (v := -1) rfl rfl k_9_290 ?_
  exact x_retL rfl rfl rfl (by omega) rfl rfl
set_option maxHeartbeats 4000000 in
set_option maxRecDepth 20000 in
theorem c_mpairO (hG : Gok G) (hd : 1 ≤ d) {n : Nat} (hn : M.1 (40, 0) 8 = nI n) (hn2 : n ≤ 40) {i : Nat} (hi : i < n) {kl : Nat} (hkl : M.1 (51, 0) i = nI kl) (hkl2 : kl ≤ 6) {j : Nat} (k : Int32) (hj : kl ≤ j) (hj2 : j < 2 ^ 31) : Ct G mX9_pair d [.ref (ga G (40, 0)), .int (nI i), .int (nI j), .int (k)] M (.inl (some (.long ((-1))))) (ui M (40, 0) 0 (nI 0)) 0 := by
  refine ct_of hG okX9_pair (by decide +kernel) rfl (Nat.le_of_ble_eq_true rfl) ?_
  refine x_aload_n rfl rfl rfl ?_
  refine x_iconstN (b := 0) rfl rfl ?_
  refine x_putI rfl rfl f_9_97 rfl rfl (by decide) rfl ?_
  refine x_aload_n rfl rfl rfl ?_
  refine x_iload_n rfl rfl rfl ?_
  refine x_callVi (d2 := 0) (c_misThing (n := n) hG (by first | exact hn | (rw [← hn]; rfl) | simp [ui, ul, hn]) (by omega) (by omega)) rfl rfl v_9_152 rfl rfl (by decide) rfl rfl (Nat.le_of_ble_eq_true rfl) (by omega) (by omega) ?_
  refine x_if_eq rfl rfl (fun hc1 => absurd hc1 (by decide +kernel)) (fun _ => ?_)
  refine x_iload_n rfl rfl rfl ?_
  refine x_ifN_lt (by omega) rfl rfl (fun hc2 => hc2.elim) (fun hc2 => ?_)
  refine x_iload_n rfl rfl rfl ?_
  refine x_aload_n rfl rfl rfl ?_
  refine x_getR0 rfl rfl f_9_42 rfl (by decide) rfl rfl ?_
  refine x_iload_n rfl rfl rfl ?_
  refine x_ialdv (a := i) (v := nI kl) (by first | exact hkl | (rw [← hkl]; rfl) | simp [ui, ul, hkl]) rfl rfl rfl (by decide) (by omega) (by decide) ?_
  refine x_icmpN_lt (by omega) (by omega) rfl rfl (fun hc3 => absurd hc3 (by omega)) (fun hc3 => ?_)
  refine x_ldc2 (v := -1) rfl rfl k_9_290 ?_
  exact x_retL rfl rfl rfl (by omega) rfl rfl
set_option maxHeartbeats 4000000 in
set_option maxRecDepth 20000 in
theorem c_mpair0 (hG : Gok G) (hd : 1 ≤ d) {n : Nat} (hn : M.1 (40, 0) 8 = nI n) (hn2 : n ≤ 40) {i : Nat} (hi : i < n) {kl : Nat} (hkl : M.1 (51, 0) i = nI kl) (hkl2 : kl ≤ 6) {j : Nat} (hj : j < kl) : Ct G mX9_pair d [.ref (ga G (40, 0)), .int (nI i), .int (nI j), .int (nI 0)] M (.inl (some (.long (M.2 (53, 0) ((6 * i) + j))))) (ui M (40, 0) 0 (nI 0)) 0 := by
  refine ct_of hG okX9_pair (by decide +kernel) rfl (Nat.le_of_ble_eq_true rfl) ?_
  refine x_aload_n rfl rfl rfl ?_
  refine x_iconstN (b := 0) rfl rfl ?_
  refine x_putI rfl rfl f_9_97 rfl rfl (by decide) rfl ?_
  refine x_aload_n rfl rfl rfl ?_
  refine x_iload_n rfl rfl rfl ?_
  refine x_callVi (d2 := 0) (c_misThing (n := n) hG (by first | exact hn | (rw [← hn]; rfl) | simp [ui, ul, hn]) (by omega) (by omega)) rfl rfl v_9_152 rfl rfl (by decide) rfl rfl (Nat.le_of_ble_eq_true rfl) (by omega) (by omega) ?_
  refine x_if_eq rfl rfl (fun hc1 => absurd hc1 (by decide +kernel)) (fun _ => ?_)
  refine x_iload_n rfl rfl rfl ?_
  refine x_ifN_lt (by omega) rfl rfl (fun hc2 => hc2.elim) (fun hc2 => ?_)
  refine x_iload_n rfl rfl rfl ?_
  refine x_aload_n rfl rfl rfl ?_
  refine x_getR0 rfl rfl f_9_42 rfl (by decide) rfl rfl ?_
  refine x_iload_n rfl rfl rfl ?_
  refine x_ialdv (a := i) (v := nI kl) (by first | exact hkl | (rw [← hkl]; rfl) | simp [ui, ul, hkl]) rfl rfl rfl (by decide) (by omega) (by decide) ?_
  refine x_icmpN_lt (by omega) (by omega) rfl rfl (fun hc3 => ?_) (fun hc3 => absurd hc3 (by omega))
  refine x_iload_n rfl rfl rfl ?_
  refine x_if_eq rfl rfl (fun _ => ?_) (fun hc4 => absurd hc4 (by decide +kernel))
  refine x_aload_n rfl rfl rfl ?_
  refine x_getR0 rfl rfl f_9_48 rfl (by decide) rfl rfl ?_
  refine x_bipush (v := nI 6) rfl rfl (by decide +kernel) ?_
  refine x_iload_n rfl rfl rfl ?_
  refine x_imulN (a := 6) (b := i) rfl rfl ?_
  refine x_iload_n rfl rfl rfl ?_
  refine x_iaddN (a := 6 * i) (b := j) rfl rfl ?_
  refine x_laldv (a := (6 * i) + j) (v := M.2 (53, 0) ((6 * i) + j)) (by first | rfl | simp [ui, ul]) rfl rfl rfl (by decide) (by omega) (by decide) ?_
  exact x_retL rfl rfl rfl (by omega) rfl rfl
set_option maxHeartbeats 4000000 in
set_option maxRecDepth 20000 in
theorem c_mpair1 (hG : Gok G) (hd : 1 ≤ d) {n : Nat} (hn : M.1 (40, 0) 8 = nI n) (hn2 : n ≤ 40) {i : Nat} (hi : i < n) {kl : Nat} (hkl : M.1 (51, 0) i = nI kl) (hkl2 : kl ≤ 6) {j : Nat} (hj : j < kl) : Ct G mX9_pair d [.ref (ga G (40, 0)), .int (nI i), .int (nI j), .int (nI 1)] M (.inl (some (.long (M.2 (52, 0) ((6 * i) + j))))) (ui M (40, 0) 0 (nI 0)) 0 := by
  refine ct_of hG okX9_pair (by decide +kernel) rfl (Nat.le_of_ble_eq_true rfl) ?_
  refine x_aload_n rfl rfl rfl ?_
  refine x_iconstN (b := 0) rfl rfl ?_
  refine x_putI rfl rfl f_9_97 rfl rfl (by decide) rfl ?_
  refine x_aload_n rfl rfl rfl ?_
  refine x_iload_n rfl rfl rfl ?_
  refine x_callVi (d2 := 0) (c_misThing (n := n) hG (by first | exact hn | (rw [← hn]; rfl) | simp [ui, ul, hn]) (by omega) (by omega)) rfl rfl v_9_152 rfl rfl (by decide) rfl rfl (Nat.le_of_ble_eq_true rfl) (by omega) (by omega) ?_
  refine x_if_eq rfl rfl (fun hc1 => absurd hc1 (by decide +kernel)) (fun _ => ?_)
  refine x_iload_n rfl rfl rfl ?_
  refine x_ifN_lt (by omega) rfl rfl (fun hc2 => hc2.elim) (fun hc2 => ?_)
  refine x_iload_n rfl rfl rfl ?_
  refine x_aload_n rfl rfl rfl ?_
  refine x_getR0 rfl rfl f_9_42 rfl (by decide) rfl rfl ?_
  refine x_iload_n rfl rfl rfl ?_
  refine x_ialdv (a := i) (v := nI kl) (by first | exact hkl | (rw [← hkl]; rfl) | simp [ui, ul, hkl]) rfl rfl rfl (by decide) (by omega) (by decide) ?_
  refine x_icmpN_lt (by omega) (by omega) rfl rfl (fun hc3 => ?_) (fun hc3 => absurd hc3 (by omega))
  refine x_iload_n rfl rfl rfl ?_
  refine x_if_eq rfl rfl (fun hc4 => absurd hc4 (by decide +kernel)) (fun _ => ?_)
  refine x_aload_n rfl rfl rfl ?_
  refine x_getR0 rfl rfl f_9_45 rfl (by decide) rfl rfl ?_
  refine x_bipush (v := nI 6) rfl rfl (by decide +kernel) ?_
  refine x_iload_n rfl rfl rfl ?_
  refine x_imulN (a := 6) (b := i) rfl rfl ?_
  refine x_iload_n rfl rfl rfl ?_
  refine x_iaddN (a := 6 * i) (b := j) rfl rfl ?_
  refine x_laldv (a := (6 * i) + j) (v := M.2 (52, 0) ((6 * i) + j)) (by first | rfl | simp [ui, ul]) rfl rfl rfl (by decide) (by omega) (by decide) ?_
  refine x_goto rfl rfl ?_
  exact x_retL rfl rfl rfl (by omega) rfl rfl
end D3
end
